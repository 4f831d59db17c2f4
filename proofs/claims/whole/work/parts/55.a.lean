def sfF (reg : Nat → Int32) (v c : Int32) : Nat → Int32 := upd (upd (upd reg 5 (if v &&& 255 = 0 then 1 else 0)) 6 c) 7 ((v >>> ((7 : Int32) &&& 31)) &&& 1)
set_option maxRecDepth 20000 in
theorem setFlags_c (mem reg inp rq gvn size len pages which exA exT cnt ks : Nat → Int32) (rf im rm lr room trn kd by_ fm fs fp fd lb ov : Int32) (v c : Int32) : fX5_setFlags (rf, mem, reg, inp, im, rq, rm, lr, gvn, size, len, pages, which, exA, exT, room, trn, cnt, kd, by_, fm, fs, fp, fd, ks, lb, ov) v c = some (rf, mem, (sfF reg v c), inp, im, rq, rm, lr, gvn, size, len, pages, which, exA, exT, room, trn, cnt, kd, by_, fm, fs, fp, fd, ks, lb, ov) := by
  unfold sfF
  by_cases h : v &&& 255 = 0
  · simp only [-Int32.reduceToNatClampNeg, fX5_setFlags_b18_e, fX5_setFlags_e, pLet_e, h, if_true, p10_5, p10_6, p10_7, j5, j6, j7, gM_reg_t, sM_reg_t]
  · simp only [-Int32.reduceToNatClampNeg, fX5_setFlags_b18_e, fX5_setFlags_e, pLet_e, h, if_false, p10_5, p10_6, p10_7, j5, j6, j7, gM_reg_t, sM_reg_t]
set_option maxRecDepth 20000 in
theorem less_c (mem reg inp rq gvn size len pages which exA exT cnt ks : Nat → Int32) (rf im rm lr room trn kd by_ fm fs fp fd lb ov : Int32) (x y : Int32) : fX5_less (rf, mem, reg, inp, im, rq, rm, lr, gvn, size, len, pages, which, exA, exT, room, trn, cnt, kd, by_, fm, fs, fp, fd, ks, lb, ov) x y = some ((x - y) &&& 255, (rf, mem, (sfF reg ((x - y) &&& 255) (if x - y < 0 then 1 else 0)), inp, im, rq, rm, lr, gvn, size, len, pages, which, exA, exT, room, trn, cnt, kd, by_, fm, fs, fp, fd, ks, lb, ov)) := by
  by_cases h : x - y < 0
  · rw [if_pos h]
    have h3 : ¬ 0 ≤ x - y := Int32.not_le.mpr h
    simp only [-Int32.reduceToNatClampNeg, fX5_less_b19_e, fX5_less_e, pLet_e, pB_e2, h, h3, if_true, if_false, setFlags_c]
  · rw [if_neg h]
    have h2 : 0 ≤ x - y := Int32.not_lt.mp h
    simp only [-Int32.reduceToNatClampNeg, fX5_less_b19_e, fX5_less_e, pLet_e, pB_e2, h, h2, if_true, if_false, setFlags_c]
set_option maxRecDepth 20000 in
theorem sp_1 {mem reg inp rq gvn size len pages which exA exT cnt ks : Nat → Int32} {rf im rm lr room trn kd by_ fm fs fp fd lb ov : Int32} {a b n d s : Nat} (ha : a < 256) (hb : b < 256) (hn : n < 256) (hr : reg 9 = nI a) (hm : mem a = nI b) (hn2 : mem ((a + 1) % 256) = nI n) (hk : kM b = 1) (hB : bytB b = 1) (hde : b / 4 % 4 = d) (hse : b % 4 = s) :
    fX5_step (rf, mem, reg, inp, im, rq, rm, lr, gvn, size, len, pages, which, exA, exT, room, trn, cnt, kd, by_, fm, fs, fp, fd, ks, lb, ov) = some (rf, mem, (upd reg 9 (nI ((a + 1) % 256))), inp, im, rq, rm, lr, gvn, size, len, pages, which, exA, exT, room, trn, (upd (upd cnt 0 (cnt 0 + 1)) 11 1), 1, 1, fm, fs, fp, fd, ks, lb, 1) := by
  have hl : fX5_look (rf, mem, reg, inp, im, rq, rm, lr, gvn, size, len, pages, which, exA, exT, room, trn, cnt, kd, by_, fm, fs, fp, fd, ks, lb, ov) (nI a) = some (rf, mem, reg, inp, im, rq, rm, lr, gvn, size, len, pages, which, exA, exT, room, trn, cnt, 1, 1, fm, fs, fp, fd, ks, lb, ov) := by
    rw [look_e ha hb (show gM_memory (rf, mem, reg, inp, im, rq, rm, lr, gvn, size, len, pages, which, exA, exT, room, trn, cnt, kd, by_, fm, fs, fp, fd, ks, lb, ov) a = nI b from hm), hk, hB]
    rfl
  have c0 : (nI a).toNatClampNeg = a := cl_n (by omega)
  have c4 : (nI ((a + 1) % 256)).toNatClampNeg = (a + 1) % 256 := cl_n (by omega)
  have g0 : ∀ {β : Type} (k : Option β), pIn (nI a) 256 k = k := fun k => pIn_n (by omega) (by omega)
  have g4 : ∀ {β : Type} (k : Option β), pIn (nI ((a + 1) % 256)) 256 k = k := fun k => pIn_n (by omega) (by omega)
  have q1 : (nI a + 1) &&& 255 = nI ((a + 1) % 256) := by rw [nI_1, and255 (by omega)]
  have q2 : (nI b >>> ((2 : Int32) &&& 31)) &&& 3 = nI d := by rw [pk_shrN (by omega) _ 2 rfl, pk_andN (by omega) 2 rfl, ← hde]
  have q3 : nI b &&& 3 = nI s := by rw [pk_andN (by omega) 2 rfl, ← hse]
  have hd : d < 4 := by omega
  have hs : s < 4 := by omega
  have c1 : (nI d).toNatClampNeg = d := cl_n (by omega)
  have c2 : (nI s).toNatClampNeg = s := cl_n (by omega)
  have g1 : ∀ {β : Type} (k : Option β), pIn (nI d) 10 k = k := fun k => pIn_n (by omega) (by omega)
  have g2 : ∀ {β : Type} (k : Option β), pIn (nI s) 10 k = k := fun k => pIn_n (by omega) (by omega)
  have u1 : ∀ x : Int32, upd reg 9 x d = reg d := fun x => pk_un (by omega)
  have u2 : ∀ x : Int32, upd reg 9 x s = reg s := fun x => pk_un (by omega)
  have u6 : ∀ x : Int32, upd reg 9 x 6 = reg 6 := fun x => pk_un (by omega)
  have u0 : ∀ x : Int32, upd reg 9 x 0 = reg 0 := fun x => pk_un (by omega)
  have u4 : ∀ x : Int32, upd reg 9 x 4 = reg 4 := fun x => pk_un (by omega)
  have u5 : ∀ x : Int32, upd reg 9 x 5 = reg 5 := fun x => pk_un (by omega)
  have u7 : ∀ x : Int32, upd reg 9 x 7 = reg 7 := fun x => pk_un (by omega)
  have k10 : ∀ x : Int32, upd cnt 0 x 10 = cnt 10 := fun x => pk_un (by omega)
  simp only [-Int32.reduceToNatClampNeg, pLet_e, pB_e2, fX5_push_e, fX5_pop_e, fX5_goes_b79_e, fX5_goes_b67_e, fX5_goes_e, fX5_add_e, fX5_shift_b98_e, fX5_shift_b78_e, fX5_shift_b49_e, fX5_shift_b38_e, fX5_shift_b24_e, fX5_shift_b19_e, fX5_shift_e, fX5_stepOn_b200_e, fX5_stepOn_b300_e, fX5_stepOn_e, fX5_step_b218_e, fX5_step_b258_e, fX5_step_b239_e, fX5_step_b307_e, fX5_step_b278_e, fX5_step_b406_e, fX5_step_b361_e, fX5_step_b421_e, fX5_step_e, setFlags_c, gM_memory_t, sM_memory_t, gM_reg_t, sM_reg_t, gM_given_t, sM_given_t, gM_counts_t, sM_counts_t, gM_kind_t, sM_kind_t, gM_bytes_t, sM_bytes_t, gM_isOver_t, sM_isOver_t, j0, j1, j2, j3, j4, j5, j6, j7, j8, j9, j10, j11, j12, p10_0, p10_1, p10_2, p10_3, p10_4, p10_5, p10_6, p10_7, p10_8, p10_9, p12_0, p12_1, p12_2, p12_3, p12_4, p12_5, p12_6, p12_7, p12_8, p12_9, p12_10, p12_11, hl, hr, hm, hn2, c0, c4, g0, g4, q1, q2, q3, c1, c2, g1, g2, u0, u1, u2, u4, u5, u6, u7, k10, if_true, if_false, ne_1_0, ne_1_0, ne_1_2, ne_1_3, ne_1_4, ne_1_5, ne_1_6, ne_1_7, ne_1_8, ne_1_9, ne_1_10, ne_1_11, ne_1_12, ne_1_13, ne_1_14, ne_1_15, ne_1_16, ne_1_17, ne_1_18, ne_1_19, ne_1_20, ne_1_21, ne_1_22, ne_1_23, ne_1_24, ne_1_25, ne_1_26, ne_1_27, ne_1_28, ne_1_29]
set_option maxRecDepth 20000 in
theorem sp_4 {mem reg inp rq gvn size len pages which exA exT cnt ks : Nat → Int32} {rf im rm lr room trn kd by_ fm fs fp fd lb ov : Int32} {a b n d s : Nat} (ha : a < 256) (hb : b < 256) (hn : n < 256) (hr : reg 9 = nI a) (hm : mem a = nI b) (hn2 : mem ((a + 1) % 256) = nI n) (hk : kM b = 4) (hB : bytB b = 1) (hde : b / 4 % 4 = d) (hse : b % 4 = s) :
    fX5_step (rf, mem, reg, inp, im, rq, rm, lr, gvn, size, len, pages, which, exA, exT, room, trn, cnt, kd, by_, fm, fs, fp, fd, ks, lb, ov) = some (rf, mem, (upd (upd reg 9 (nI ((a + 1) % 256))) 8 1), inp, im, rq, rm, lr, gvn, size, len, pages, which, exA, exT, room, trn, (upd cnt 0 (cnt 0 + 1)), 4, 1, fm, fs, fp, fd, ks, lb, ov) := by
  have hl : fX5_look (rf, mem, reg, inp, im, rq, rm, lr, gvn, size, len, pages, which, exA, exT, room, trn, cnt, kd, by_, fm, fs, fp, fd, ks, lb, ov) (nI a) = some (rf, mem, reg, inp, im, rq, rm, lr, gvn, size, len, pages, which, exA, exT, room, trn, cnt, 4, 1, fm, fs, fp, fd, ks, lb, ov) := by
    rw [look_e ha hb (show gM_memory (rf, mem, reg, inp, im, rq, rm, lr, gvn, size, len, pages, which, exA, exT, room, trn, cnt, kd, by_, fm, fs, fp, fd, ks, lb, ov) a = nI b from hm), hk, hB]
    rfl
  have c0 : (nI a).toNatClampNeg = a := cl_n (by omega)
  have c4 : (nI ((a + 1) % 256)).toNatClampNeg = (a + 1) % 256 := cl_n (by omega)
  have g0 : ∀ {β : Type} (k : Option β), pIn (nI a) 256 k = k := fun k => pIn_n (by omega) (by omega)
  have g4 : ∀ {β : Type} (k : Option β), pIn (nI ((a + 1) % 256)) 256 k = k := fun k => pIn_n (by omega) (by omega)
  have q1 : (nI a + 1) &&& 255 = nI ((a + 1) % 256) := by rw [nI_1, and255 (by omega)]
  have q2 : (nI b >>> ((2 : Int32) &&& 31)) &&& 3 = nI d := by rw [pk_shrN (by omega) _ 2 rfl, pk_andN (by omega) 2 rfl, ← hde]
  have q3 : nI b &&& 3 = nI s := by rw [pk_andN (by omega) 2 rfl, ← hse]
  have hd : d < 4 := by omega
  have hs : s < 4 := by omega
  have c1 : (nI d).toNatClampNeg = d := cl_n (by omega)
  have c2 : (nI s).toNatClampNeg = s := cl_n (by omega)
  have g1 : ∀ {β : Type} (k : Option β), pIn (nI d) 10 k = k := fun k => pIn_n (by omega) (by omega)
  have g2 : ∀ {β : Type} (k : Option β), pIn (nI s) 10 k = k := fun k => pIn_n (by omega) (by omega)
  have u1 : ∀ x : Int32, upd reg 9 x d = reg d := fun x => pk_un (by omega)
  have u2 : ∀ x : Int32, upd reg 9 x s = reg s := fun x => pk_un (by omega)
  have u6 : ∀ x : Int32, upd reg 9 x 6 = reg 6 := fun x => pk_un (by omega)
  have u0 : ∀ x : Int32, upd reg 9 x 0 = reg 0 := fun x => pk_un (by omega)
  have u4 : ∀ x : Int32, upd reg 9 x 4 = reg 4 := fun x => pk_un (by omega)
  have u5 : ∀ x : Int32, upd reg 9 x 5 = reg 5 := fun x => pk_un (by omega)
  have u7 : ∀ x : Int32, upd reg 9 x 7 = reg 7 := fun x => pk_un (by omega)
  have k10 : ∀ x : Int32, upd cnt 0 x 10 = cnt 10 := fun x => pk_un (by omega)
  simp only [-Int32.reduceToNatClampNeg, pLet_e, pB_e2, fX5_push_e, fX5_pop_e, fX5_goes_b79_e, fX5_goes_b67_e, fX5_goes_e, fX5_add_e, fX5_shift_b98_e, fX5_shift_b78_e, fX5_shift_b49_e, fX5_shift_b38_e, fX5_shift_b24_e, fX5_shift_b19_e, fX5_shift_e, fX5_stepOn_b200_e, fX5_stepOn_b300_e, fX5_stepOn_e, fX5_step_b218_e, fX5_step_b258_e, fX5_step_b239_e, fX5_step_b307_e, fX5_step_b278_e, fX5_step_b406_e, fX5_step_b361_e, fX5_step_b421_e, fX5_step_e, setFlags_c, gM_memory_t, sM_memory_t, gM_reg_t, sM_reg_t, gM_given_t, sM_given_t, gM_counts_t, sM_counts_t, gM_kind_t, sM_kind_t, gM_bytes_t, sM_bytes_t, gM_isOver_t, sM_isOver_t, j0, j1, j2, j3, j4, j5, j6, j7, j8, j9, j10, j11, j12, p10_0, p10_1, p10_2, p10_3, p10_4, p10_5, p10_6, p10_7, p10_8, p10_9, p12_0, p12_1, p12_2, p12_3, p12_4, p12_5, p12_6, p12_7, p12_8, p12_9, p12_10, p12_11, hl, hr, hm, hn2, c0, c4, g0, g4, q1, q2, q3, c1, c2, g1, g2, u0, u1, u2, u4, u5, u6, u7, k10, if_true, if_false, ne_1_0, ne_4_0, ne_4_1, ne_4_2, ne_4_3, ne_4_5, ne_4_6, ne_4_7, ne_4_8, ne_4_9, ne_4_10, ne_4_11, ne_4_12, ne_4_13, ne_4_14, ne_4_15, ne_4_16, ne_4_17, ne_4_18, ne_4_19, ne_4_20, ne_4_21, ne_4_22, ne_4_23, ne_4_24, ne_4_25, ne_4_26, ne_4_27, ne_4_28, ne_4_29]
set_option maxRecDepth 20000 in
theorem sp_5 {mem reg inp rq gvn size len pages which exA exT cnt ks : Nat → Int32} {rf im rm lr room trn kd by_ fm fs fp fd lb ov : Int32} {a b n d s : Nat} (ha : a < 256) (hb : b < 256) (hn : n < 256) (hr : reg 9 = nI a) (hm : mem a = nI b) (hn2 : mem ((a + 1) % 256) = nI n) (hk : kM b = 5) (hB : bytB b = 1) (hde : b / 4 % 4 = d) (hse : b % 4 = s) :
    fX5_step (rf, mem, reg, inp, im, rq, rm, lr, gvn, size, len, pages, which, exA, exT, room, trn, cnt, kd, by_, fm, fs, fp, fd, ks, lb, ov) = some (rf, mem, (upd (upd reg 9 (nI ((a + 1) % 256))) 8 0), inp, im, rq, rm, lr, gvn, size, len, pages, which, exA, exT, room, trn, (upd cnt 0 (cnt 0 + 1)), 5, 1, fm, fs, fp, fd, ks, lb, ov) := by
  have hl : fX5_look (rf, mem, reg, inp, im, rq, rm, lr, gvn, size, len, pages, which, exA, exT, room, trn, cnt, kd, by_, fm, fs, fp, fd, ks, lb, ov) (nI a) = some (rf, mem, reg, inp, im, rq, rm, lr, gvn, size, len, pages, which, exA, exT, room, trn, cnt, 5, 1, fm, fs, fp, fd, ks, lb, ov) := by
    rw [look_e ha hb (show gM_memory (rf, mem, reg, inp, im, rq, rm, lr, gvn, size, len, pages, which, exA, exT, room, trn, cnt, kd, by_, fm, fs, fp, fd, ks, lb, ov) a = nI b from hm), hk, hB]
    rfl
  have c0 : (nI a).toNatClampNeg = a := cl_n (by omega)
  have c4 : (nI ((a + 1) % 256)).toNatClampNeg = (a + 1) % 256 := cl_n (by omega)
  have g0 : ∀ {β : Type} (k : Option β), pIn (nI a) 256 k = k := fun k => pIn_n (by omega) (by omega)
  have g4 : ∀ {β : Type} (k : Option β), pIn (nI ((a + 1) % 256)) 256 k = k := fun k => pIn_n (by omega) (by omega)
  have q1 : (nI a + 1) &&& 255 = nI ((a + 1) % 256) := by rw [nI_1, and255 (by omega)]
  have q2 : (nI b >>> ((2 : Int32) &&& 31)) &&& 3 = nI d := by rw [pk_shrN (by omega) _ 2 rfl, pk_andN (by omega) 2 rfl, ← hde]
  have q3 : nI b &&& 3 = nI s := by rw [pk_andN (by omega) 2 rfl, ← hse]
  have hd : d < 4 := by omega
  have hs : s < 4 := by omega
  have c1 : (nI d).toNatClampNeg = d := cl_n (by omega)
  have c2 : (nI s).toNatClampNeg = s := cl_n (by omega)
  have g1 : ∀ {β : Type} (k : Option β), pIn (nI d) 10 k = k := fun k => pIn_n (by omega) (by omega)
  have g2 : ∀ {β : Type} (k : Option β), pIn (nI s) 10 k = k := fun k => pIn_n (by omega) (by omega)
  have u1 : ∀ x : Int32, upd reg 9 x d = reg d := fun x => pk_un (by omega)
  have u2 : ∀ x : Int32, upd reg 9 x s = reg s := fun x => pk_un (by omega)
  have u6 : ∀ x : Int32, upd reg 9 x 6 = reg 6 := fun x => pk_un (by omega)
  have u0 : ∀ x : Int32, upd reg 9 x 0 = reg 0 := fun x => pk_un (by omega)
  have u4 : ∀ x : Int32, upd reg 9 x 4 = reg 4 := fun x => pk_un (by omega)
  have u5 : ∀ x : Int32, upd reg 9 x 5 = reg 5 := fun x => pk_un (by omega)
  have u7 : ∀ x : Int32, upd reg 9 x 7 = reg 7 := fun x => pk_un (by omega)
  have k10 : ∀ x : Int32, upd cnt 0 x 10 = cnt 10 := fun x => pk_un (by omega)
  simp only [-Int32.reduceToNatClampNeg, pLet_e, pB_e2, fX5_push_e, fX5_pop_e, fX5_goes_b79_e, fX5_goes_b67_e, fX5_goes_e, fX5_add_e, fX5_shift_b98_e, fX5_shift_b78_e, fX5_shift_b49_e, fX5_shift_b38_e, fX5_shift_b24_e, fX5_shift_b19_e, fX5_shift_e, fX5_stepOn_b200_e, fX5_stepOn_b300_e, fX5_stepOn_e, fX5_step_b218_e, fX5_step_b258_e, fX5_step_b239_e, fX5_step_b307_e, fX5_step_b278_e, fX5_step_b406_e, fX5_step_b361_e, fX5_step_b421_e, fX5_step_e, setFlags_c, gM_memory_t, sM_memory_t, gM_reg_t, sM_reg_t, gM_given_t, sM_given_t, gM_counts_t, sM_counts_t, gM_kind_t, sM_kind_t, gM_bytes_t, sM_bytes_t, gM_isOver_t, sM_isOver_t, j0, j1, j2, j3, j4, j5, j6, j7, j8, j9, j10, j11, j12, p10_0, p10_1, p10_2, p10_3, p10_4, p10_5, p10_6, p10_7, p10_8, p10_9, p12_0, p12_1, p12_2, p12_3, p12_4, p12_5, p12_6, p12_7, p12_8, p12_9, p12_10, p12_11, hl, hr, hm, hn2, c0, c4, g0, g4, q1, q2, q3, c1, c2, g1, g2, u0, u1, u2, u4, u5, u6, u7, k10, if_true, if_false, ne_1_0, ne_5_0, ne_5_1, ne_5_2, ne_5_3, ne_5_4, ne_5_6, ne_5_7, ne_5_8, ne_5_9, ne_5_10, ne_5_11, ne_5_12, ne_5_13, ne_5_14, ne_5_15, ne_5_16, ne_5_17, ne_5_18, ne_5_19, ne_5_20, ne_5_21, ne_5_22, ne_5_23, ne_5_24, ne_5_25, ne_5_26, ne_5_27, ne_5_28, ne_5_29]
set_option maxRecDepth 20000 in
theorem sp_6 {mem reg inp rq gvn size len pages which exA exT cnt ks : Nat → Int32} {rf im rm lr room trn kd by_ fm fs fp fd lb ov : Int32} {a b n d s : Nat} (ha : a < 256) (hb : b < 256) (hn : n < 256) (hr : reg 9 = nI a) (hm : mem a = nI b) (hn2 : mem ((a + 1) % 256) = nI n) (hk : kM b = 6) (hB : bytB b = 1) (hde : b / 4 % 4 = d) (hse : b % 4 = s) :
    fX5_step (rf, mem, reg, inp, im, rq, rm, lr, gvn, size, len, pages, which, exA, exT, room, trn, cnt, kd, by_, fm, fs, fp, fd, ks, lb, ov) = some (rf, mem, (upd (upd reg 9 (nI ((a + 1) % 256))) d (reg s)), inp, im, rq, rm, lr, gvn, size, len, pages, which, exA, exT, room, trn, (upd cnt 0 (cnt 0 + 1)), 6, 1, fm, fs, fp, fd, ks, lb, ov) := by
  have hl : fX5_look (rf, mem, reg, inp, im, rq, rm, lr, gvn, size, len, pages, which, exA, exT, room, trn, cnt, kd, by_, fm, fs, fp, fd, ks, lb, ov) (nI a) = some (rf, mem, reg, inp, im, rq, rm, lr, gvn, size, len, pages, which, exA, exT, room, trn, cnt, 6, 1, fm, fs, fp, fd, ks, lb, ov) := by
    rw [look_e ha hb (show gM_memory (rf, mem, reg, inp, im, rq, rm, lr, gvn, size, len, pages, which, exA, exT, room, trn, cnt, kd, by_, fm, fs, fp, fd, ks, lb, ov) a = nI b from hm), hk, hB]
    rfl
  have c0 : (nI a).toNatClampNeg = a := cl_n (by omega)
  have c4 : (nI ((a + 1) % 256)).toNatClampNeg = (a + 1) % 256 := cl_n (by omega)
  have g0 : ∀ {β : Type} (k : Option β), pIn (nI a) 256 k = k := fun k => pIn_n (by omega) (by omega)
  have g4 : ∀ {β : Type} (k : Option β), pIn (nI ((a + 1) % 256)) 256 k = k := fun k => pIn_n (by omega) (by omega)
  have q1 : (nI a + 1) &&& 255 = nI ((a + 1) % 256) := by rw [nI_1, and255 (by omega)]
  have q2 : (nI b >>> ((2 : Int32) &&& 31)) &&& 3 = nI d := by rw [pk_shrN (by omega) _ 2 rfl, pk_andN (by omega) 2 rfl, ← hde]
  have q3 : nI b &&& 3 = nI s := by rw [pk_andN (by omega) 2 rfl, ← hse]
  have hd : d < 4 := by omega
  have hs : s < 4 := by omega
  have c1 : (nI d).toNatClampNeg = d := cl_n (by omega)
  have c2 : (nI s).toNatClampNeg = s := cl_n (by omega)
  have g1 : ∀ {β : Type} (k : Option β), pIn (nI d) 10 k = k := fun k => pIn_n (by omega) (by omega)
  have g2 : ∀ {β : Type} (k : Option β), pIn (nI s) 10 k = k := fun k => pIn_n (by omega) (by omega)
  have u1 : ∀ x : Int32, upd reg 9 x d = reg d := fun x => pk_un (by omega)
  have u2 : ∀ x : Int32, upd reg 9 x s = reg s := fun x => pk_un (by omega)
  have u6 : ∀ x : Int32, upd reg 9 x 6 = reg 6 := fun x => pk_un (by omega)
  have u0 : ∀ x : Int32, upd reg 9 x 0 = reg 0 := fun x => pk_un (by omega)
  have u4 : ∀ x : Int32, upd reg 9 x 4 = reg 4 := fun x => pk_un (by omega)
  have u5 : ∀ x : Int32, upd reg 9 x 5 = reg 5 := fun x => pk_un (by omega)
  have u7 : ∀ x : Int32, upd reg 9 x 7 = reg 7 := fun x => pk_un (by omega)
  have k10 : ∀ x : Int32, upd cnt 0 x 10 = cnt 10 := fun x => pk_un (by omega)
  simp only [-Int32.reduceToNatClampNeg, pLet_e, pB_e2, fX5_push_e, fX5_pop_e, fX5_goes_b79_e, fX5_goes_b67_e, fX5_goes_e, fX5_add_e, fX5_shift_b98_e, fX5_shift_b78_e, fX5_shift_b49_e, fX5_shift_b38_e, fX5_shift_b24_e, fX5_shift_b19_e, fX5_shift_e, fX5_stepOn_b200_e, fX5_stepOn_b300_e, fX5_stepOn_e, fX5_step_b218_e, fX5_step_b258_e, fX5_step_b239_e, fX5_step_b307_e, fX5_step_b278_e, fX5_step_b406_e, fX5_step_b361_e, fX5_step_b421_e, fX5_step_e, setFlags_c, gM_memory_t, sM_memory_t, gM_reg_t, sM_reg_t, gM_given_t, sM_given_t, gM_counts_t, sM_counts_t, gM_kind_t, sM_kind_t, gM_bytes_t, sM_bytes_t, gM_isOver_t, sM_isOver_t, j0, j1, j2, j3, j4, j5, j6, j7, j8, j9, j10, j11, j12, p10_0, p10_1, p10_2, p10_3, p10_4, p10_5, p10_6, p10_7, p10_8, p10_9, p12_0, p12_1, p12_2, p12_3, p12_4, p12_5, p12_6, p12_7, p12_8, p12_9, p12_10, p12_11, hl, hr, hm, hn2, c0, c4, g0, g4, q1, q2, q3, c1, c2, g1, g2, u0, u1, u2, u4, u5, u6, u7, k10, if_true, if_false, ne_1_0, ne_6_0, ne_6_1, ne_6_2, ne_6_3, ne_6_4, ne_6_5, ne_6_7, ne_6_8, ne_6_9, ne_6_10, ne_6_11, ne_6_12, ne_6_13, ne_6_14, ne_6_15, ne_6_16, ne_6_17, ne_6_18, ne_6_19, ne_6_20, ne_6_21, ne_6_22, ne_6_23, ne_6_24, ne_6_25, ne_6_26, ne_6_27, ne_6_28, ne_6_29]
set_option maxRecDepth 20000 in
theorem sp_17 {mem reg inp rq gvn size len pages which exA exT cnt ks : Nat → Int32} {rf im rm lr room trn kd by_ fm fs fp fd lb ov : Int32} {a b n d s : Nat} (ha : a < 256) (hb : b < 256) (hn : n < 256) (hr : reg 9 = nI a) (hm : mem a = nI b) (hn2 : mem ((a + 1) % 256) = nI n) (hk : kM b = 17) (hB : bytB b = 2) (hde : b / 4 % 4 = d) (hse : b % 4 = s) :
    fX5_step (rf, mem, reg, inp, im, rq, rm, lr, gvn, size, len, pages, which, exA, exT, room, trn, cnt, kd, by_, fm, fs, fp, fd, ks, lb, ov) = some (rf, mem, (upd (upd reg 9 ((nI a + 2) &&& 255)) d (nI n)), inp, im, rq, rm, lr, gvn, size, len, pages, which, exA, exT, room, trn, (upd cnt 0 (cnt 0 + 1)), 17, 2, fm, fs, fp, fd, ks, lb, ov) := by
  have hl : fX5_look (rf, mem, reg, inp, im, rq, rm, lr, gvn, size, len, pages, which, exA, exT, room, trn, cnt, kd, by_, fm, fs, fp, fd, ks, lb, ov) (nI a) = some (rf, mem, reg, inp, im, rq, rm, lr, gvn, size, len, pages, which, exA, exT, room, trn, cnt, 17, 2, fm, fs, fp, fd, ks, lb, ov) := by
    rw [look_e ha hb (show gM_memory (rf, mem, reg, inp, im, rq, rm, lr, gvn, size, len, pages, which, exA, exT, room, trn, cnt, kd, by_, fm, fs, fp, fd, ks, lb, ov) a = nI b from hm), hk, hB]
    rfl
  have c0 : (nI a).toNatClampNeg = a := cl_n (by omega)
  have c4 : (nI ((a + 1) % 256)).toNatClampNeg = (a + 1) % 256 := cl_n (by omega)
  have g0 : ∀ {β : Type} (k : Option β), pIn (nI a) 256 k = k := fun k => pIn_n (by omega) (by omega)
  have g4 : ∀ {β : Type} (k : Option β), pIn (nI ((a + 1) % 256)) 256 k = k := fun k => pIn_n (by omega) (by omega)
  have q1 : (nI a + 1) &&& 255 = nI ((a + 1) % 256) := by rw [nI_1, and255 (by omega)]
  have q2 : (nI b >>> ((2 : Int32) &&& 31)) &&& 3 = nI d := by rw [pk_shrN (by omega) _ 2 rfl, pk_andN (by omega) 2 rfl, ← hde]
  have q3 : nI b &&& 3 = nI s := by rw [pk_andN (by omega) 2 rfl, ← hse]
  have hd : d < 4 := by omega
  have hs : s < 4 := by omega
  have c1 : (nI d).toNatClampNeg = d := cl_n (by omega)
  have c2 : (nI s).toNatClampNeg = s := cl_n (by omega)
  have g1 : ∀ {β : Type} (k : Option β), pIn (nI d) 10 k = k := fun k => pIn_n (by omega) (by omega)
  have g2 : ∀ {β : Type} (k : Option β), pIn (nI s) 10 k = k := fun k => pIn_n (by omega) (by omega)
  have u1 : ∀ x : Int32, upd reg 9 x d = reg d := fun x => pk_un (by omega)
  have u2 : ∀ x : Int32, upd reg 9 x s = reg s := fun x => pk_un (by omega)
  have u6 : ∀ x : Int32, upd reg 9 x 6 = reg 6 := fun x => pk_un (by omega)
  have u0 : ∀ x : Int32, upd reg 9 x 0 = reg 0 := fun x => pk_un (by omega)
  have u4 : ∀ x : Int32, upd reg 9 x 4 = reg 4 := fun x => pk_un (by omega)
  have u5 : ∀ x : Int32, upd reg 9 x 5 = reg 5 := fun x => pk_un (by omega)
  have u7 : ∀ x : Int32, upd reg 9 x 7 = reg 7 := fun x => pk_un (by omega)
  have k10 : ∀ x : Int32, upd cnt 0 x 10 = cnt 10 := fun x => pk_un (by omega)
  simp only [-Int32.reduceToNatClampNeg, pLet_e, pB_e2, fX5_push_e, fX5_pop_e, fX5_goes_b79_e, fX5_goes_b67_e, fX5_goes_e, fX5_add_e, fX5_shift_b98_e, fX5_shift_b78_e, fX5_shift_b49_e, fX5_shift_b38_e, fX5_shift_b24_e, fX5_shift_b19_e, fX5_shift_e, fX5_stepOn_b200_e, fX5_stepOn_b300_e, fX5_stepOn_e, fX5_step_b218_e, fX5_step_b258_e, fX5_step_b239_e, fX5_step_b307_e, fX5_step_b278_e, fX5_step_b406_e, fX5_step_b361_e, fX5_step_b421_e, fX5_step_e, setFlags_c, gM_memory_t, sM_memory_t, gM_reg_t, sM_reg_t, gM_given_t, sM_given_t, gM_counts_t, sM_counts_t, gM_kind_t, sM_kind_t, gM_bytes_t, sM_bytes_t, gM_isOver_t, sM_isOver_t, j0, j1, j2, j3, j4, j5, j6, j7, j8, j9, j10, j11, j12, p10_0, p10_1, p10_2, p10_3, p10_4, p10_5, p10_6, p10_7, p10_8, p10_9, p12_0, p12_1, p12_2, p12_3, p12_4, p12_5, p12_6, p12_7, p12_8, p12_9, p12_10, p12_11, hl, hr, hm, hn2, c0, c4, g0, g4, q1, q2, q3, c1, c2, g1, g2, u0, u1, u2, u4, u5, u6, u7, k10, if_true, if_false, ne_1_0, ne_17_0, ne_17_1, ne_17_2, ne_17_3, ne_17_4, ne_17_5, ne_17_6, ne_17_7, ne_17_8, ne_17_9, ne_17_10, ne_17_11, ne_17_12, ne_17_13, ne_17_14, ne_17_15, ne_17_16, ne_17_18, ne_17_19, ne_17_20, ne_17_21, ne_17_22, ne_17_23, ne_17_24, ne_17_25, ne_17_26, ne_17_27, ne_17_28, ne_17_29]
set_option maxRecDepth 20000 in
theorem sp_7 {mem reg inp rq gvn size len pages which exA exT cnt ks : Nat → Int32} {rf im rm lr room trn kd by_ fm fs fp fd lb ov : Int32} {a b n d s : Nat} (ha : a < 256) (hb : b < 256) (hn : n < 256) (hr : reg 9 = nI a) (hm : mem a = nI b) (hn2 : mem ((a + 1) % 256) = nI n) (hk : kM b = 7) (hB : bytB b = 1) (hde : b / 4 % 4 = d) (hse : b % 4 = s) :
    fX5_step (rf, mem, reg, inp, im, rq, rm, lr, gvn, size, len, pages, which, exA, exT, room, trn, cnt, kd, by_, fm, fs, fp, fd, ks, lb, ov) = some (rf, mem, (upd (sfF (upd reg 9 (nI ((a + 1) % 256))) ((reg d + reg s) + 0) (((reg d + reg s) + 0) >>> ((8 : Int32) &&& 31))) d (((reg d + reg s) + 0) &&& 255)), inp, im, rq, rm, lr, gvn, size, len, pages, which, exA, exT, room, trn, (upd cnt 0 (cnt 0 + 1)), 7, 1, fm, fs, fp, fd, ks, lb, ov) := by
  have hl : fX5_look (rf, mem, reg, inp, im, rq, rm, lr, gvn, size, len, pages, which, exA, exT, room, trn, cnt, kd, by_, fm, fs, fp, fd, ks, lb, ov) (nI a) = some (rf, mem, reg, inp, im, rq, rm, lr, gvn, size, len, pages, which, exA, exT, room, trn, cnt, 7, 1, fm, fs, fp, fd, ks, lb, ov) := by
    rw [look_e ha hb (show gM_memory (rf, mem, reg, inp, im, rq, rm, lr, gvn, size, len, pages, which, exA, exT, room, trn, cnt, kd, by_, fm, fs, fp, fd, ks, lb, ov) a = nI b from hm), hk, hB]
    rfl
  have c0 : (nI a).toNatClampNeg = a := cl_n (by omega)
  have c4 : (nI ((a + 1) % 256)).toNatClampNeg = (a + 1) % 256 := cl_n (by omega)
  have g0 : ∀ {β : Type} (k : Option β), pIn (nI a) 256 k = k := fun k => pIn_n (by omega) (by omega)
  have g4 : ∀ {β : Type} (k : Option β), pIn (nI ((a + 1) % 256)) 256 k = k := fun k => pIn_n (by omega) (by omega)
  have q1 : (nI a + 1) &&& 255 = nI ((a + 1) % 256) := by rw [nI_1, and255 (by omega)]
  have q2 : (nI b >>> ((2 : Int32) &&& 31)) &&& 3 = nI d := by rw [pk_shrN (by omega) _ 2 rfl, pk_andN (by omega) 2 rfl, ← hde]
  have q3 : nI b &&& 3 = nI s := by rw [pk_andN (by omega) 2 rfl, ← hse]
  have hd : d < 4 := by omega
  have hs : s < 4 := by omega
  have c1 : (nI d).toNatClampNeg = d := cl_n (by omega)
  have c2 : (nI s).toNatClampNeg = s := cl_n (by omega)
  have g1 : ∀ {β : Type} (k : Option β), pIn (nI d) 10 k = k := fun k => pIn_n (by omega) (by omega)
  have g2 : ∀ {β : Type} (k : Option β), pIn (nI s) 10 k = k := fun k => pIn_n (by omega) (by omega)
  have u1 : ∀ x : Int32, upd reg 9 x d = reg d := fun x => pk_un (by omega)
  have u2 : ∀ x : Int32, upd reg 9 x s = reg s := fun x => pk_un (by omega)
  have u6 : ∀ x : Int32, upd reg 9 x 6 = reg 6 := fun x => pk_un (by omega)
  have u0 : ∀ x : Int32, upd reg 9 x 0 = reg 0 := fun x => pk_un (by omega)
  have u4 : ∀ x : Int32, upd reg 9 x 4 = reg 4 := fun x => pk_un (by omega)
  have u5 : ∀ x : Int32, upd reg 9 x 5 = reg 5 := fun x => pk_un (by omega)
  have u7 : ∀ x : Int32, upd reg 9 x 7 = reg 7 := fun x => pk_un (by omega)
  have k10 : ∀ x : Int32, upd cnt 0 x 10 = cnt 10 := fun x => pk_un (by omega)
  simp only [-Int32.reduceToNatClampNeg, pLet_e, pB_e2, fX5_push_e, fX5_pop_e, fX5_goes_b79_e, fX5_goes_b67_e, fX5_goes_e, fX5_add_e, fX5_shift_b98_e, fX5_shift_b78_e, fX5_shift_b49_e, fX5_shift_b38_e, fX5_shift_b24_e, fX5_shift_b19_e, fX5_shift_e, fX5_stepOn_b200_e, fX5_stepOn_b300_e, fX5_stepOn_e, fX5_step_b218_e, fX5_step_b258_e, fX5_step_b239_e, fX5_step_b307_e, fX5_step_b278_e, fX5_step_b406_e, fX5_step_b361_e, fX5_step_b421_e, fX5_step_e, setFlags_c, gM_memory_t, sM_memory_t, gM_reg_t, sM_reg_t, gM_given_t, sM_given_t, gM_counts_t, sM_counts_t, gM_kind_t, sM_kind_t, gM_bytes_t, sM_bytes_t, gM_isOver_t, sM_isOver_t, j0, j1, j2, j3, j4, j5, j6, j7, j8, j9, j10, j11, j12, p10_0, p10_1, p10_2, p10_3, p10_4, p10_5, p10_6, p10_7, p10_8, p10_9, p12_0, p12_1, p12_2, p12_3, p12_4, p12_5, p12_6, p12_7, p12_8, p12_9, p12_10, p12_11, hl, hr, hm, hn2, c0, c4, g0, g4, q1, q2, q3, c1, c2, g1, g2, u0, u1, u2, u4, u5, u6, u7, k10, if_true, if_false, ne_1_0, ne_7_0, ne_7_1, ne_7_2, ne_7_3, ne_7_4, ne_7_5, ne_7_6, ne_7_8, ne_7_9, ne_7_10, ne_7_11, ne_7_12, ne_7_13, ne_7_14, ne_7_15, ne_7_16, ne_7_17, ne_7_18, ne_7_19, ne_7_20, ne_7_21, ne_7_22, ne_7_23, ne_7_24, ne_7_25, ne_7_26, ne_7_27, ne_7_28, ne_7_29]
set_option maxRecDepth 20000 in
theorem sp_8 {mem reg inp rq gvn size len pages which exA exT cnt ks : Nat → Int32} {rf im rm lr room trn kd by_ fm fs fp fd lb ov : Int32} {a b n d s : Nat} (ha : a < 256) (hb : b < 256) (hn : n < 256) (hr : reg 9 = nI a) (hm : mem a = nI b) (hn2 : mem ((a + 1) % 256) = nI n) (hk : kM b = 8) (hB : bytB b = 1) (hde : b / 4 % 4 = d) (hse : b % 4 = s) :
    fX5_step (rf, mem, reg, inp, im, rq, rm, lr, gvn, size, len, pages, which, exA, exT, room, trn, cnt, kd, by_, fm, fs, fp, fd, ks, lb, ov) = some (rf, mem, (upd (sfF (upd reg 9 (nI ((a + 1) % 256))) ((reg d + reg s) + reg 6) (((reg d + reg s) + reg 6) >>> ((8 : Int32) &&& 31))) d (((reg d + reg s) + reg 6) &&& 255)), inp, im, rq, rm, lr, gvn, size, len, pages, which, exA, exT, room, trn, (upd cnt 0 (cnt 0 + 1)), 8, 1, fm, fs, fp, fd, ks, lb, ov) := by
  have hl : fX5_look (rf, mem, reg, inp, im, rq, rm, lr, gvn, size, len, pages, which, exA, exT, room, trn, cnt, kd, by_, fm, fs, fp, fd, ks, lb, ov) (nI a) = some (rf, mem, reg, inp, im, rq, rm, lr, gvn, size, len, pages, which, exA, exT, room, trn, cnt, 8, 1, fm, fs, fp, fd, ks, lb, ov) := by
    rw [look_e ha hb (show gM_memory (rf, mem, reg, inp, im, rq, rm, lr, gvn, size, len, pages, which, exA, exT, room, trn, cnt, kd, by_, fm, fs, fp, fd, ks, lb, ov) a = nI b from hm), hk, hB]
    rfl
  have c0 : (nI a).toNatClampNeg = a := cl_n (by omega)
  have c4 : (nI ((a + 1) % 256)).toNatClampNeg = (a + 1) % 256 := cl_n (by omega)
  have g0 : ∀ {β : Type} (k : Option β), pIn (nI a) 256 k = k := fun k => pIn_n (by omega) (by omega)
  have g4 : ∀ {β : Type} (k : Option β), pIn (nI ((a + 1) % 256)) 256 k = k := fun k => pIn_n (by omega) (by omega)
  have q1 : (nI a + 1) &&& 255 = nI ((a + 1) % 256) := by rw [nI_1, and255 (by omega)]
  have q2 : (nI b >>> ((2 : Int32) &&& 31)) &&& 3 = nI d := by rw [pk_shrN (by omega) _ 2 rfl, pk_andN (by omega) 2 rfl, ← hde]
  have q3 : nI b &&& 3 = nI s := by rw [pk_andN (by omega) 2 rfl, ← hse]
  have hd : d < 4 := by omega
  have hs : s < 4 := by omega
  have c1 : (nI d).toNatClampNeg = d := cl_n (by omega)
  have c2 : (nI s).toNatClampNeg = s := cl_n (by omega)
  have g1 : ∀ {β : Type} (k : Option β), pIn (nI d) 10 k = k := fun k => pIn_n (by omega) (by omega)
  have g2 : ∀ {β : Type} (k : Option β), pIn (nI s) 10 k = k := fun k => pIn_n (by omega) (by omega)
  have u1 : ∀ x : Int32, upd reg 9 x d = reg d := fun x => pk_un (by omega)
  have u2 : ∀ x : Int32, upd reg 9 x s = reg s := fun x => pk_un (by omega)
  have u6 : ∀ x : Int32, upd reg 9 x 6 = reg 6 := fun x => pk_un (by omega)
  have u0 : ∀ x : Int32, upd reg 9 x 0 = reg 0 := fun x => pk_un (by omega)
  have u4 : ∀ x : Int32, upd reg 9 x 4 = reg 4 := fun x => pk_un (by omega)
  have u5 : ∀ x : Int32, upd reg 9 x 5 = reg 5 := fun x => pk_un (by omega)
  have u7 : ∀ x : Int32, upd reg 9 x 7 = reg 7 := fun x => pk_un (by omega)
  have k10 : ∀ x : Int32, upd cnt 0 x 10 = cnt 10 := fun x => pk_un (by omega)
  simp only [-Int32.reduceToNatClampNeg, pLet_e, pB_e2, fX5_push_e, fX5_pop_e, fX5_goes_b79_e, fX5_goes_b67_e, fX5_goes_e, fX5_add_e, fX5_shift_b98_e, fX5_shift_b78_e, fX5_shift_b49_e, fX5_shift_b38_e, fX5_shift_b24_e, fX5_shift_b19_e, fX5_shift_e, fX5_stepOn_b200_e, fX5_stepOn_b300_e, fX5_stepOn_e, fX5_step_b218_e, fX5_step_b258_e, fX5_step_b239_e, fX5_step_b307_e, fX5_step_b278_e, fX5_step_b406_e, fX5_step_b361_e, fX5_step_b421_e, fX5_step_e, setFlags_c, gM_memory_t, sM_memory_t, gM_reg_t, sM_reg_t, gM_given_t, sM_given_t, gM_counts_t, sM_counts_t, gM_kind_t, sM_kind_t, gM_bytes_t, sM_bytes_t, gM_isOver_t, sM_isOver_t, j0, j1, j2, j3, j4, j5, j6, j7, j8, j9, j10, j11, j12, p10_0, p10_1, p10_2, p10_3, p10_4, p10_5, p10_6, p10_7, p10_8, p10_9, p12_0, p12_1, p12_2, p12_3, p12_4, p12_5, p12_6, p12_7, p12_8, p12_9, p12_10, p12_11, hl, hr, hm, hn2, c0, c4, g0, g4, q1, q2, q3, c1, c2, g1, g2, u0, u1, u2, u4, u5, u6, u7, k10, if_true, if_false, ne_1_0, ne_8_0, ne_8_1, ne_8_2, ne_8_3, ne_8_4, ne_8_5, ne_8_6, ne_8_7, ne_8_9, ne_8_10, ne_8_11, ne_8_12, ne_8_13, ne_8_14, ne_8_15, ne_8_16, ne_8_17, ne_8_18, ne_8_19, ne_8_20, ne_8_21, ne_8_22, ne_8_23, ne_8_24, ne_8_25, ne_8_26, ne_8_27, ne_8_28, ne_8_29]
set_option maxRecDepth 20000 in
theorem sp_2a {mem reg inp rq gvn size len pages which exA exT cnt ks : Nat → Int32} {rf im rm lr room trn kd by_ fm fs fp fd lb ov : Int32} {a b n d s : Nat} (ha : a < 256) (hb : b < 256) (hn : n < 256) (hr : reg 9 = nI a) (hm : mem a = nI b) (hn2 : mem ((a + 1) % 256) = nI n) (hk : kM b = 2) (hB : bytB b = 1) (hde : b / 4 % 4 = d) (hse : b % 4 = s) {gn : Nat} (hg : gn < 100) (hge : cnt 10 = nI gn) :
    fX5_step (rf, mem, reg, inp, im, rq, rm, lr, gvn, size, len, pages, which, exA, exT, room, trn, cnt, kd, by_, fm, fs, fp, fd, ks, lb, ov) = some (rf, mem, (upd reg 9 (nI ((a + 1) % 256))), inp, im, rq, rm, lr, (upd gvn gn (reg 0)), size, len, pages, which, exA, exT, room, trn, (upd (upd cnt 0 (cnt 0 + 1)) 10 (nI gn + 1)), 2, 1, fm, fs, fp, fd, ks, lb, ov) := by
  have hl : fX5_look (rf, mem, reg, inp, im, rq, rm, lr, gvn, size, len, pages, which, exA, exT, room, trn, cnt, kd, by_, fm, fs, fp, fd, ks, lb, ov) (nI a) = some (rf, mem, reg, inp, im, rq, rm, lr, gvn, size, len, pages, which, exA, exT, room, trn, cnt, 2, 1, fm, fs, fp, fd, ks, lb, ov) := by
    rw [look_e ha hb (show gM_memory (rf, mem, reg, inp, im, rq, rm, lr, gvn, size, len, pages, which, exA, exT, room, trn, cnt, kd, by_, fm, fs, fp, fd, ks, lb, ov) a = nI b from hm), hk, hB]
    rfl
  have c0 : (nI a).toNatClampNeg = a := cl_n (by omega)
  have c4 : (nI ((a + 1) % 256)).toNatClampNeg = (a + 1) % 256 := cl_n (by omega)
  have g0 : ∀ {β : Type} (k : Option β), pIn (nI a) 256 k = k := fun k => pIn_n (by omega) (by omega)
  have g4 : ∀ {β : Type} (k : Option β), pIn (nI ((a + 1) % 256)) 256 k = k := fun k => pIn_n (by omega) (by omega)
  have q1 : (nI a + 1) &&& 255 = nI ((a + 1) % 256) := by rw [nI_1, and255 (by omega)]
  have q2 : (nI b >>> ((2 : Int32) &&& 31)) &&& 3 = nI d := by rw [pk_shrN (by omega) _ 2 rfl, pk_andN (by omega) 2 rfl, ← hde]
  have q3 : nI b &&& 3 = nI s := by rw [pk_andN (by omega) 2 rfl, ← hse]
  have hd : d < 4 := by omega
  have hs : s < 4 := by omega
  have c1 : (nI d).toNatClampNeg = d := cl_n (by omega)
  have c2 : (nI s).toNatClampNeg = s := cl_n (by omega)
  have g1 : ∀ {β : Type} (k : Option β), pIn (nI d) 10 k = k := fun k => pIn_n (by omega) (by omega)
  have g2 : ∀ {β : Type} (k : Option β), pIn (nI s) 10 k = k := fun k => pIn_n (by omega) (by omega)
  have u1 : ∀ x : Int32, upd reg 9 x d = reg d := fun x => pk_un (by omega)
  have u2 : ∀ x : Int32, upd reg 9 x s = reg s := fun x => pk_un (by omega)
  have u6 : ∀ x : Int32, upd reg 9 x 6 = reg 6 := fun x => pk_un (by omega)
  have u0 : ∀ x : Int32, upd reg 9 x 0 = reg 0 := fun x => pk_un (by omega)
  have u4 : ∀ x : Int32, upd reg 9 x 4 = reg 4 := fun x => pk_un (by omega)
  have u5 : ∀ x : Int32, upd reg 9 x 5 = reg 5 := fun x => pk_un (by omega)
  have u7 : ∀ x : Int32, upd reg 9 x 7 = reg 7 := fun x => pk_un (by omega)
  have k10 : ∀ x : Int32, upd cnt 0 x 10 = cnt 10 := fun x => pk_un (by omega)
  have r1 : ¬ (100 : Int32) ≤ nI gn := nI_ge (b := 100) hg (by omega)
  have r2 : ∀ {β : Type} (k : Option β), pIn (nI gn) 100 k = k := fun k => pIn_n (by omega) (by omega)
  have r3 : (nI gn).toNatClampNeg = gn := cl_n (by omega)
  simp only [-Int32.reduceToNatClampNeg, pLet_e, pB_e2, fX5_push_e, fX5_pop_e, fX5_goes_b79_e, fX5_goes_b67_e, fX5_goes_e, fX5_add_e, fX5_shift_b98_e, fX5_shift_b78_e, fX5_shift_b49_e, fX5_shift_b38_e, fX5_shift_b24_e, fX5_shift_b19_e, fX5_shift_e, fX5_stepOn_b200_e, fX5_stepOn_b300_e, fX5_stepOn_e, fX5_step_b218_e, fX5_step_b258_e, fX5_step_b239_e, fX5_step_b307_e, fX5_step_b278_e, fX5_step_b406_e, fX5_step_b361_e, fX5_step_b421_e, fX5_step_e, setFlags_c, gM_memory_t, sM_memory_t, gM_reg_t, sM_reg_t, gM_given_t, sM_given_t, gM_counts_t, sM_counts_t, gM_kind_t, sM_kind_t, gM_bytes_t, sM_bytes_t, gM_isOver_t, sM_isOver_t, j0, j1, j2, j3, j4, j5, j6, j7, j8, j9, j10, j11, j12, p10_0, p10_1, p10_2, p10_3, p10_4, p10_5, p10_6, p10_7, p10_8, p10_9, p12_0, p12_1, p12_2, p12_3, p12_4, p12_5, p12_6, p12_7, p12_8, p12_9, p12_10, p12_11, hl, hr, hm, hn2, c0, c4, g0, g4, q1, q2, q3, c1, c2, g1, g2, u0, u1, u2, u4, u5, u6, u7, k10, if_true, if_false, ne_1_0, ne_2_0, ne_2_1, ne_2_3, ne_2_4, ne_2_5, ne_2_6, ne_2_7, ne_2_8, ne_2_9, ne_2_10, ne_2_11, ne_2_12, ne_2_13, ne_2_14, ne_2_15, ne_2_16, ne_2_17, ne_2_18, ne_2_19, ne_2_20, ne_2_21, ne_2_22, ne_2_23, ne_2_24, ne_2_25, ne_2_26, ne_2_27, ne_2_28, ne_2_29, hge, r1, r2, r3]
set_option maxRecDepth 20000 in
theorem sp_2b {mem reg inp rq gvn size len pages which exA exT cnt ks : Nat → Int32} {rf im rm lr room trn kd by_ fm fs fp fd lb ov : Int32} {a b n d s : Nat} (ha : a < 256) (hb : b < 256) (hn : n < 256) (hr : reg 9 = nI a) (hm : mem a = nI b) (hn2 : mem ((a + 1) % 256) = nI n) (hk : kM b = 2) (hB : bytB b = 1) (hde : b / 4 % 4 = d) (hse : b % 4 = s) {gn : Nat} (hg : 100 ≤ gn) (hg2 : gn < 2 ^ 31) (hge : cnt 10 = nI gn) :
    fX5_step (rf, mem, reg, inp, im, rq, rm, lr, gvn, size, len, pages, which, exA, exT, room, trn, cnt, kd, by_, fm, fs, fp, fd, ks, lb, ov) = some (rf, mem, (upd reg 9 (nI ((a + 1) % 256))), inp, im, rq, rm, lr, gvn, size, len, pages, which, exA, exT, room, trn, (upd (upd cnt 0 (cnt 0 + 1)) 10 (nI gn + 1)), 2, 1, fm, fs, fp, fd, ks, lb, ov) := by
  have hl : fX5_look (rf, mem, reg, inp, im, rq, rm, lr, gvn, size, len, pages, which, exA, exT, room, trn, cnt, kd, by_, fm, fs, fp, fd, ks, lb, ov) (nI a) = some (rf, mem, reg, inp, im, rq, rm, lr, gvn, size, len, pages, which, exA, exT, room, trn, cnt, 2, 1, fm, fs, fp, fd, ks, lb, ov) := by
    rw [look_e ha hb (show gM_memory (rf, mem, reg, inp, im, rq, rm, lr, gvn, size, len, pages, which, exA, exT, room, trn, cnt, kd, by_, fm, fs, fp, fd, ks, lb, ov) a = nI b from hm), hk, hB]
    rfl
  have c0 : (nI a).toNatClampNeg = a := cl_n (by omega)
  have c4 : (nI ((a + 1) % 256)).toNatClampNeg = (a + 1) % 256 := cl_n (by omega)
  have g0 : ∀ {β : Type} (k : Option β), pIn (nI a) 256 k = k := fun k => pIn_n (by omega) (by omega)
  have g4 : ∀ {β : Type} (k : Option β), pIn (nI ((a + 1) % 256)) 256 k = k := fun k => pIn_n (by omega) (by omega)
  have q1 : (nI a + 1) &&& 255 = nI ((a + 1) % 256) := by rw [nI_1, and255 (by omega)]
  have q2 : (nI b >>> ((2 : Int32) &&& 31)) &&& 3 = nI d := by rw [pk_shrN (by omega) _ 2 rfl, pk_andN (by omega) 2 rfl, ← hde]
  have q3 : nI b &&& 3 = nI s := by rw [pk_andN (by omega) 2 rfl, ← hse]
  have hd : d < 4 := by omega
  have hs : s < 4 := by omega
  have c1 : (nI d).toNatClampNeg = d := cl_n (by omega)
  have c2 : (nI s).toNatClampNeg = s := cl_n (by omega)
  have g1 : ∀ {β : Type} (k : Option β), pIn (nI d) 10 k = k := fun k => pIn_n (by omega) (by omega)
  have g2 : ∀ {β : Type} (k : Option β), pIn (nI s) 10 k = k := fun k => pIn_n (by omega) (by omega)
  have u1 : ∀ x : Int32, upd reg 9 x d = reg d := fun x => pk_un (by omega)
  have u2 : ∀ x : Int32, upd reg 9 x s = reg s := fun x => pk_un (by omega)
  have u6 : ∀ x : Int32, upd reg 9 x 6 = reg 6 := fun x => pk_un (by omega)
  have u0 : ∀ x : Int32, upd reg 9 x 0 = reg 0 := fun x => pk_un (by omega)
  have u4 : ∀ x : Int32, upd reg 9 x 4 = reg 4 := fun x => pk_un (by omega)
  have u5 : ∀ x : Int32, upd reg 9 x 5 = reg 5 := fun x => pk_un (by omega)
  have u7 : ∀ x : Int32, upd reg 9 x 7 = reg 7 := fun x => pk_un (by omega)
  have k10 : ∀ x : Int32, upd cnt 0 x 10 = cnt 10 := fun x => pk_un (by omega)
  have r1 : (100 : Int32) ≤ nI gn := nI_le (a := 100) hg (by omega)
  simp only [-Int32.reduceToNatClampNeg, pLet_e, pB_e2, fX5_push_e, fX5_pop_e, fX5_goes_b79_e, fX5_goes_b67_e, fX5_goes_e, fX5_add_e, fX5_shift_b98_e, fX5_shift_b78_e, fX5_shift_b49_e, fX5_shift_b38_e, fX5_shift_b24_e, fX5_shift_b19_e, fX5_shift_e, fX5_stepOn_b200_e, fX5_stepOn_b300_e, fX5_stepOn_e, fX5_step_b218_e, fX5_step_b258_e, fX5_step_b239_e, fX5_step_b307_e, fX5_step_b278_e, fX5_step_b406_e, fX5_step_b361_e, fX5_step_b421_e, fX5_step_e, setFlags_c, gM_memory_t, sM_memory_t, gM_reg_t, sM_reg_t, gM_given_t, sM_given_t, gM_counts_t, sM_counts_t, gM_kind_t, sM_kind_t, gM_bytes_t, sM_bytes_t, gM_isOver_t, sM_isOver_t, j0, j1, j2, j3, j4, j5, j6, j7, j8, j9, j10, j11, j12, p10_0, p10_1, p10_2, p10_3, p10_4, p10_5, p10_6, p10_7, p10_8, p10_9, p12_0, p12_1, p12_2, p12_3, p12_4, p12_5, p12_6, p12_7, p12_8, p12_9, p12_10, p12_11, hl, hr, hm, hn2, c0, c4, g0, g4, q1, q2, q3, c1, c2, g1, g2, u0, u1, u2, u4, u5, u6, u7, k10, if_true, if_false, ne_1_0, ne_2_0, ne_2_1, ne_2_3, ne_2_4, ne_2_5, ne_2_6, ne_2_7, ne_2_8, ne_2_9, ne_2_10, ne_2_11, ne_2_12, ne_2_13, ne_2_14, ne_2_15, ne_2_16, ne_2_17, ne_2_18, ne_2_19, ne_2_20, ne_2_21, ne_2_22, ne_2_23, ne_2_24, ne_2_25, ne_2_26, ne_2_27, ne_2_28, ne_2_29, hge, r1]
set_option maxRecDepth 20000 in
theorem sp_3 {mem reg inp rq gvn size len pages which exA exT cnt ks : Nat → Int32} {rf im rm lr room trn kd by_ fm fs fp fd lb ov : Int32} {a b n d s : Nat} (ha : a < 256) (hb : b < 256) (hn : n < 256) (hr : reg 9 = nI a) (hm : mem a = nI b) (hn2 : mem ((a + 1) % 256) = nI n) (hk : kM b = 3) (hB : bytB b = 1) (hde : b / 4 % 4 = d) (hse : b % 4 = s) {vx : TM} (hrc : fX5_receive (rf, mem, (upd reg 9 (nI ((a + 1) % 256))), inp, im, rq, rm, lr, gvn, size, len, pages, which, exA, exT, room, trn, (upd cnt 0 (cnt 0 + 1)), 3, 1, fm, fs, fp, fd, ks, lb, ov) = some vx) :
    fX5_step (rf, mem, reg, inp, im, rq, rm, lr, gvn, size, len, pages, which, exA, exT, room, trn, cnt, kd, by_, fm, fs, fp, fd, ks, lb, ov) = some vx := by
  have hl : fX5_look (rf, mem, reg, inp, im, rq, rm, lr, gvn, size, len, pages, which, exA, exT, room, trn, cnt, kd, by_, fm, fs, fp, fd, ks, lb, ov) (nI a) = some (rf, mem, reg, inp, im, rq, rm, lr, gvn, size, len, pages, which, exA, exT, room, trn, cnt, 3, 1, fm, fs, fp, fd, ks, lb, ov) := by
    rw [look_e ha hb (show gM_memory (rf, mem, reg, inp, im, rq, rm, lr, gvn, size, len, pages, which, exA, exT, room, trn, cnt, kd, by_, fm, fs, fp, fd, ks, lb, ov) a = nI b from hm), hk, hB]
    rfl
  have c0 : (nI a).toNatClampNeg = a := cl_n (by omega)
  have c4 : (nI ((a + 1) % 256)).toNatClampNeg = (a + 1) % 256 := cl_n (by omega)
  have g0 : ∀ {β : Type} (k : Option β), pIn (nI a) 256 k = k := fun k => pIn_n (by omega) (by omega)
  have g4 : ∀ {β : Type} (k : Option β), pIn (nI ((a + 1) % 256)) 256 k = k := fun k => pIn_n (by omega) (by omega)
  have q1 : (nI a + 1) &&& 255 = nI ((a + 1) % 256) := by rw [nI_1, and255 (by omega)]
  have q2 : (nI b >>> ((2 : Int32) &&& 31)) &&& 3 = nI d := by rw [pk_shrN (by omega) _ 2 rfl, pk_andN (by omega) 2 rfl, ← hde]
  have q3 : nI b &&& 3 = nI s := by rw [pk_andN (by omega) 2 rfl, ← hse]
  have hd : d < 4 := by omega
  have hs : s < 4 := by omega
  have c1 : (nI d).toNatClampNeg = d := cl_n (by omega)
  have c2 : (nI s).toNatClampNeg = s := cl_n (by omega)
  have g1 : ∀ {β : Type} (k : Option β), pIn (nI d) 10 k = k := fun k => pIn_n (by omega) (by omega)
  have g2 : ∀ {β : Type} (k : Option β), pIn (nI s) 10 k = k := fun k => pIn_n (by omega) (by omega)
  have u1 : ∀ x : Int32, upd reg 9 x d = reg d := fun x => pk_un (by omega)
  have u2 : ∀ x : Int32, upd reg 9 x s = reg s := fun x => pk_un (by omega)
  have u6 : ∀ x : Int32, upd reg 9 x 6 = reg 6 := fun x => pk_un (by omega)
  have u0 : ∀ x : Int32, upd reg 9 x 0 = reg 0 := fun x => pk_un (by omega)
  have u4 : ∀ x : Int32, upd reg 9 x 4 = reg 4 := fun x => pk_un (by omega)
  have u5 : ∀ x : Int32, upd reg 9 x 5 = reg 5 := fun x => pk_un (by omega)
  have u7 : ∀ x : Int32, upd reg 9 x 7 = reg 7 := fun x => pk_un (by omega)
  have k10 : ∀ x : Int32, upd cnt 0 x 10 = cnt 10 := fun x => pk_un (by omega)
  simp only [-Int32.reduceToNatClampNeg, pLet_e, pB_e2, fX5_push_e, fX5_pop_e, fX5_goes_b79_e, fX5_goes_b67_e, fX5_goes_e, fX5_add_e, fX5_shift_b98_e, fX5_shift_b78_e, fX5_shift_b49_e, fX5_shift_b38_e, fX5_shift_b24_e, fX5_shift_b19_e, fX5_shift_e, fX5_stepOn_b200_e, fX5_stepOn_b300_e, fX5_stepOn_e, fX5_step_b218_e, fX5_step_b258_e, fX5_step_b239_e, fX5_step_b307_e, fX5_step_b278_e, fX5_step_b406_e, fX5_step_b361_e, fX5_step_b421_e, fX5_step_e, setFlags_c, gM_memory_t, sM_memory_t, gM_reg_t, sM_reg_t, gM_given_t, sM_given_t, gM_counts_t, sM_counts_t, gM_kind_t, sM_kind_t, gM_bytes_t, sM_bytes_t, gM_isOver_t, sM_isOver_t, j0, j1, j2, j3, j4, j5, j6, j7, j8, j9, j10, j11, j12, p10_0, p10_1, p10_2, p10_3, p10_4, p10_5, p10_6, p10_7, p10_8, p10_9, p12_0, p12_1, p12_2, p12_3, p12_4, p12_5, p12_6, p12_7, p12_8, p12_9, p12_10, p12_11, hl, hr, hm, hn2, c0, c4, g0, g4, q1, q2, q3, c1, c2, g1, g2, u0, u1, u2, u4, u5, u6, u7, k10, if_true, if_false, ne_1_0, ne_3_0, ne_3_1, ne_3_2, ne_3_4, ne_3_5, ne_3_6, ne_3_7, ne_3_8, ne_3_9, ne_3_10, ne_3_11, ne_3_12, ne_3_13, ne_3_14, ne_3_15, ne_3_16, ne_3_17, ne_3_18, ne_3_19, ne_3_20, ne_3_21, ne_3_22, ne_3_23, ne_3_24, ne_3_25, ne_3_26, ne_3_27, ne_3_28, ne_3_29, hrc]
set_option maxRecDepth 20000 in
theorem sp_9 {mem reg inp rq gvn size len pages which exA exT cnt ks : Nat → Int32} {rf im rm lr room trn kd by_ fm fs fp fd lb ov : Int32} {a b n d s : Nat} (ha : a < 256) (hb : b < 256) (hn : n < 256) (hr : reg 9 = nI a) (hm : mem a = nI b) (hn2 : mem ((a + 1) % 256) = nI n) (hk : kM b = 9) (hB : bytB b = 1) (hde : b / 4 % 4 = d) (hse : b % 4 = s) :
    fX5_step (rf, mem, reg, inp, im, rq, rm, lr, gvn, size, len, pages, which, exA, exT, room, trn, cnt, kd, by_, fm, fs, fp, fd, ks, lb, ov) = some (rf, mem, (upd (sfF (upd reg 9 (nI ((a + 1) % 256))) ((reg d - reg s) &&& 255) (if (reg d - reg s) < 0 then 1 else 0)) d ((reg d - reg s) &&& 255)), inp, im, rq, rm, lr, gvn, size, len, pages, which, exA, exT, room, trn, (upd cnt 0 (cnt 0 + 1)), 9, 1, fm, fs, fp, fd, ks, lb, ov) := by
  have hl : fX5_look (rf, mem, reg, inp, im, rq, rm, lr, gvn, size, len, pages, which, exA, exT, room, trn, cnt, kd, by_, fm, fs, fp, fd, ks, lb, ov) (nI a) = some (rf, mem, reg, inp, im, rq, rm, lr, gvn, size, len, pages, which, exA, exT, room, trn, cnt, 9, 1, fm, fs, fp, fd, ks, lb, ov) := by
    rw [look_e ha hb (show gM_memory (rf, mem, reg, inp, im, rq, rm, lr, gvn, size, len, pages, which, exA, exT, room, trn, cnt, kd, by_, fm, fs, fp, fd, ks, lb, ov) a = nI b from hm), hk, hB]
    rfl
  have c0 : (nI a).toNatClampNeg = a := cl_n (by omega)
  have c4 : (nI ((a + 1) % 256)).toNatClampNeg = (a + 1) % 256 := cl_n (by omega)
  have g0 : ∀ {β : Type} (k : Option β), pIn (nI a) 256 k = k := fun k => pIn_n (by omega) (by omega)
  have g4 : ∀ {β : Type} (k : Option β), pIn (nI ((a + 1) % 256)) 256 k = k := fun k => pIn_n (by omega) (by omega)
  have q1 : (nI a + 1) &&& 255 = nI ((a + 1) % 256) := by rw [nI_1, and255 (by omega)]
  have q2 : (nI b >>> ((2 : Int32) &&& 31)) &&& 3 = nI d := by rw [pk_shrN (by omega) _ 2 rfl, pk_andN (by omega) 2 rfl, ← hde]
  have q3 : nI b &&& 3 = nI s := by rw [pk_andN (by omega) 2 rfl, ← hse]
  have hd : d < 4 := by omega
  have hs : s < 4 := by omega
  have c1 : (nI d).toNatClampNeg = d := cl_n (by omega)
  have c2 : (nI s).toNatClampNeg = s := cl_n (by omega)
  have g1 : ∀ {β : Type} (k : Option β), pIn (nI d) 10 k = k := fun k => pIn_n (by omega) (by omega)
  have g2 : ∀ {β : Type} (k : Option β), pIn (nI s) 10 k = k := fun k => pIn_n (by omega) (by omega)
  have u1 : ∀ x : Int32, upd reg 9 x d = reg d := fun x => pk_un (by omega)
  have u2 : ∀ x : Int32, upd reg 9 x s = reg s := fun x => pk_un (by omega)
  have u6 : ∀ x : Int32, upd reg 9 x 6 = reg 6 := fun x => pk_un (by omega)
  have u0 : ∀ x : Int32, upd reg 9 x 0 = reg 0 := fun x => pk_un (by omega)
  have u4 : ∀ x : Int32, upd reg 9 x 4 = reg 4 := fun x => pk_un (by omega)
  have u5 : ∀ x : Int32, upd reg 9 x 5 = reg 5 := fun x => pk_un (by omega)
  have u7 : ∀ x : Int32, upd reg 9 x 7 = reg 7 := fun x => pk_un (by omega)
  have k10 : ∀ x : Int32, upd cnt 0 x 10 = cnt 10 := fun x => pk_un (by omega)
  simp only [-Int32.reduceToNatClampNeg, pLet_e, pB_e2, fX5_push_e, fX5_pop_e, fX5_goes_b79_e, fX5_goes_b67_e, fX5_goes_e, fX5_add_e, fX5_shift_b98_e, fX5_shift_b78_e, fX5_shift_b49_e, fX5_shift_b38_e, fX5_shift_b24_e, fX5_shift_b19_e, fX5_shift_e, fX5_stepOn_b200_e, fX5_stepOn_b300_e, fX5_stepOn_e, fX5_step_b218_e, fX5_step_b258_e, fX5_step_b239_e, fX5_step_b307_e, fX5_step_b278_e, fX5_step_b406_e, fX5_step_b361_e, fX5_step_b421_e, fX5_step_e, setFlags_c, gM_memory_t, sM_memory_t, gM_reg_t, sM_reg_t, gM_given_t, sM_given_t, gM_counts_t, sM_counts_t, gM_kind_t, sM_kind_t, gM_bytes_t, sM_bytes_t, gM_isOver_t, sM_isOver_t, j0, j1, j2, j3, j4, j5, j6, j7, j8, j9, j10, j11, j12, p10_0, p10_1, p10_2, p10_3, p10_4, p10_5, p10_6, p10_7, p10_8, p10_9, p12_0, p12_1, p12_2, p12_3, p12_4, p12_5, p12_6, p12_7, p12_8, p12_9, p12_10, p12_11, hl, hr, hm, hn2, c0, c4, g0, g4, q1, q2, q3, c1, c2, g1, g2, u0, u1, u2, u4, u5, u6, u7, k10, if_true, if_false, ne_1_0, ne_9_0, ne_9_1, ne_9_2, ne_9_3, ne_9_4, ne_9_5, ne_9_6, ne_9_7, ne_9_8, ne_9_10, ne_9_11, ne_9_12, ne_9_13, ne_9_14, ne_9_15, ne_9_16, ne_9_17, ne_9_18, ne_9_19, ne_9_20, ne_9_21, ne_9_22, ne_9_23, ne_9_24, ne_9_25, ne_9_26, ne_9_27, ne_9_28, ne_9_29, less_c]
set_option maxRecDepth 20000 in
theorem sp_10 {mem reg inp rq gvn size len pages which exA exT cnt ks : Nat → Int32} {rf im rm lr room trn kd by_ fm fs fp fd lb ov : Int32} {a b n d s : Nat} (ha : a < 256) (hb : b < 256) (hn : n < 256) (hr : reg 9 = nI a) (hm : mem a = nI b) (hn2 : mem ((a + 1) % 256) = nI n) (hk : kM b = 10) (hB : bytB b = 1) (hde : b / 4 % 4 = d) (hse : b % 4 = s) :
    fX5_step (rf, mem, reg, inp, im, rq, rm, lr, gvn, size, len, pages, which, exA, exT, room, trn, cnt, kd, by_, fm, fs, fp, fd, ks, lb, ov) = some (rf, mem, (sfF (upd reg 9 (nI ((a + 1) % 256))) ((reg d - reg s) &&& 255) (if (reg d - reg s) < 0 then 1 else 0)), inp, im, rq, rm, lr, gvn, size, len, pages, which, exA, exT, room, trn, (upd cnt 0 (cnt 0 + 1)), 10, 1, fm, fs, fp, fd, ks, lb, ov) := by
  have hl : fX5_look (rf, mem, reg, inp, im, rq, rm, lr, gvn, size, len, pages, which, exA, exT, room, trn, cnt, kd, by_, fm, fs, fp, fd, ks, lb, ov) (nI a) = some (rf, mem, reg, inp, im, rq, rm, lr, gvn, size, len, pages, which, exA, exT, room, trn, cnt, 10, 1, fm, fs, fp, fd, ks, lb, ov) := by
    rw [look_e ha hb (show gM_memory (rf, mem, reg, inp, im, rq, rm, lr, gvn, size, len, pages, which, exA, exT, room, trn, cnt, kd, by_, fm, fs, fp, fd, ks, lb, ov) a = nI b from hm), hk, hB]
    rfl
  have c0 : (nI a).toNatClampNeg = a := cl_n (by omega)
  have c4 : (nI ((a + 1) % 256)).toNatClampNeg = (a + 1) % 256 := cl_n (by omega)
  have g0 : ∀ {β : Type} (k : Option β), pIn (nI a) 256 k = k := fun k => pIn_n (by omega) (by omega)
  have g4 : ∀ {β : Type} (k : Option β), pIn (nI ((a + 1) % 256)) 256 k = k := fun k => pIn_n (by omega) (by omega)
  have q1 : (nI a + 1) &&& 255 = nI ((a + 1) % 256) := by rw [nI_1, and255 (by omega)]
  have q2 : (nI b >>> ((2 : Int32) &&& 31)) &&& 3 = nI d := by rw [pk_shrN (by omega) _ 2 rfl, pk_andN (by omega) 2 rfl, ← hde]
  have q3 : nI b &&& 3 = nI s := by rw [pk_andN (by omega) 2 rfl, ← hse]
  have hd : d < 4 := by omega
  have hs : s < 4 := by omega
  have c1 : (nI d).toNatClampNeg = d := cl_n (by omega)
  have c2 : (nI s).toNatClampNeg = s := cl_n (by omega)
  have g1 : ∀ {β : Type} (k : Option β), pIn (nI d) 10 k = k := fun k => pIn_n (by omega) (by omega)
  have g2 : ∀ {β : Type} (k : Option β), pIn (nI s) 10 k = k := fun k => pIn_n (by omega) (by omega)
  have u1 : ∀ x : Int32, upd reg 9 x d = reg d := fun x => pk_un (by omega)
  have u2 : ∀ x : Int32, upd reg 9 x s = reg s := fun x => pk_un (by omega)
  have u6 : ∀ x : Int32, upd reg 9 x 6 = reg 6 := fun x => pk_un (by omega)
  have u0 : ∀ x : Int32, upd reg 9 x 0 = reg 0 := fun x => pk_un (by omega)
  have u4 : ∀ x : Int32, upd reg 9 x 4 = reg 4 := fun x => pk_un (by omega)
  have u5 : ∀ x : Int32, upd reg 9 x 5 = reg 5 := fun x => pk_un (by omega)
  have u7 : ∀ x : Int32, upd reg 9 x 7 = reg 7 := fun x => pk_un (by omega)
  have k10 : ∀ x : Int32, upd cnt 0 x 10 = cnt 10 := fun x => pk_un (by omega)
  simp only [-Int32.reduceToNatClampNeg, pLet_e, pB_e2, fX5_push_e, fX5_pop_e, fX5_goes_b79_e, fX5_goes_b67_e, fX5_goes_e, fX5_add_e, fX5_shift_b98_e, fX5_shift_b78_e, fX5_shift_b49_e, fX5_shift_b38_e, fX5_shift_b24_e, fX5_shift_b19_e, fX5_shift_e, fX5_stepOn_b200_e, fX5_stepOn_b300_e, fX5_stepOn_e, fX5_step_b218_e, fX5_step_b258_e, fX5_step_b239_e, fX5_step_b307_e, fX5_step_b278_e, fX5_step_b406_e, fX5_step_b361_e, fX5_step_b421_e, fX5_step_e, setFlags_c, gM_memory_t, sM_memory_t, gM_reg_t, sM_reg_t, gM_given_t, sM_given_t, gM_counts_t, sM_counts_t, gM_kind_t, sM_kind_t, gM_bytes_t, sM_bytes_t, gM_isOver_t, sM_isOver_t, j0, j1, j2, j3, j4, j5, j6, j7, j8, j9, j10, j11, j12, p10_0, p10_1, p10_2, p10_3, p10_4, p10_5, p10_6, p10_7, p10_8, p10_9, p12_0, p12_1, p12_2, p12_3, p12_4, p12_5, p12_6, p12_7, p12_8, p12_9, p12_10, p12_11, hl, hr, hm, hn2, c0, c4, g0, g4, q1, q2, q3, c1, c2, g1, g2, u0, u1, u2, u4, u5, u6, u7, k10, if_true, if_false, ne_1_0, ne_10_0, ne_10_1, ne_10_2, ne_10_3, ne_10_4, ne_10_5, ne_10_6, ne_10_7, ne_10_8, ne_10_9, ne_10_11, ne_10_12, ne_10_13, ne_10_14, ne_10_15, ne_10_16, ne_10_17, ne_10_18, ne_10_19, ne_10_20, ne_10_21, ne_10_22, ne_10_23, ne_10_24, ne_10_25, ne_10_26, ne_10_27, ne_10_28, ne_10_29, less_c]
set_option maxRecDepth 20000 in
theorem sp_11 {mem reg inp rq gvn size len pages which exA exT cnt ks : Nat → Int32} {rf im rm lr room trn kd by_ fm fs fp fd lb ov : Int32} {a b n d s : Nat} (ha : a < 256) (hb : b < 256) (hn : n < 256) (hr : reg 9 = nI a) (hm : mem a = nI b) (hn2 : mem ((a + 1) % 256) = nI n) (hk : kM b = 11) (hB : bytB b = 1) (hde : b / 4 % 4 = d) (hse : b % 4 = s) :
    fX5_step (rf, mem, reg, inp, im, rq, rm, lr, gvn, size, len, pages, which, exA, exT, room, trn, cnt, kd, by_, fm, fs, fp, fd, ks, lb, ov) = some (rf, mem, (sfF (upd (upd reg 9 (nI ((a + 1) % 256))) d (reg d &&& reg s)) (reg d &&& reg s) 0), inp, im, rq, rm, lr, gvn, size, len, pages, which, exA, exT, room, trn, (upd cnt 0 (cnt 0 + 1)), 11, 1, fm, fs, fp, fd, ks, lb, ov) := by
  have hl : fX5_look (rf, mem, reg, inp, im, rq, rm, lr, gvn, size, len, pages, which, exA, exT, room, trn, cnt, kd, by_, fm, fs, fp, fd, ks, lb, ov) (nI a) = some (rf, mem, reg, inp, im, rq, rm, lr, gvn, size, len, pages, which, exA, exT, room, trn, cnt, 11, 1, fm, fs, fp, fd, ks, lb, ov) := by
    rw [look_e ha hb (show gM_memory (rf, mem, reg, inp, im, rq, rm, lr, gvn, size, len, pages, which, exA, exT, room, trn, cnt, kd, by_, fm, fs, fp, fd, ks, lb, ov) a = nI b from hm), hk, hB]
    rfl
  have c0 : (nI a).toNatClampNeg = a := cl_n (by omega)
  have c4 : (nI ((a + 1) % 256)).toNatClampNeg = (a + 1) % 256 := cl_n (by omega)
  have g0 : ∀ {β : Type} (k : Option β), pIn (nI a) 256 k = k := fun k => pIn_n (by omega) (by omega)
  have g4 : ∀ {β : Type} (k : Option β), pIn (nI ((a + 1) % 256)) 256 k = k := fun k => pIn_n (by omega) (by omega)
  have q1 : (nI a + 1) &&& 255 = nI ((a + 1) % 256) := by rw [nI_1, and255 (by omega)]
  have q2 : (nI b >>> ((2 : Int32) &&& 31)) &&& 3 = nI d := by rw [pk_shrN (by omega) _ 2 rfl, pk_andN (by omega) 2 rfl, ← hde]
  have q3 : nI b &&& 3 = nI s := by rw [pk_andN (by omega) 2 rfl, ← hse]
  have hd : d < 4 := by omega
  have hs : s < 4 := by omega
  have c1 : (nI d).toNatClampNeg = d := cl_n (by omega)
  have c2 : (nI s).toNatClampNeg = s := cl_n (by omega)
  have g1 : ∀ {β : Type} (k : Option β), pIn (nI d) 10 k = k := fun k => pIn_n (by omega) (by omega)
  have g2 : ∀ {β : Type} (k : Option β), pIn (nI s) 10 k = k := fun k => pIn_n (by omega) (by omega)
  have u1 : ∀ x : Int32, upd reg 9 x d = reg d := fun x => pk_un (by omega)
  have u2 : ∀ x : Int32, upd reg 9 x s = reg s := fun x => pk_un (by omega)
  have u6 : ∀ x : Int32, upd reg 9 x 6 = reg 6 := fun x => pk_un (by omega)
  have u0 : ∀ x : Int32, upd reg 9 x 0 = reg 0 := fun x => pk_un (by omega)
  have u4 : ∀ x : Int32, upd reg 9 x 4 = reg 4 := fun x => pk_un (by omega)
  have u5 : ∀ x : Int32, upd reg 9 x 5 = reg 5 := fun x => pk_un (by omega)
  have u7 : ∀ x : Int32, upd reg 9 x 7 = reg 7 := fun x => pk_un (by omega)
  have k10 : ∀ x : Int32, upd cnt 0 x 10 = cnt 10 := fun x => pk_un (by omega)
  simp only [-Int32.reduceToNatClampNeg, pLet_e, pB_e2, fX5_push_e, fX5_pop_e, fX5_goes_b79_e, fX5_goes_b67_e, fX5_goes_e, fX5_add_e, fX5_shift_b98_e, fX5_shift_b78_e, fX5_shift_b49_e, fX5_shift_b38_e, fX5_shift_b24_e, fX5_shift_b19_e, fX5_shift_e, fX5_stepOn_b200_e, fX5_stepOn_b300_e, fX5_stepOn_e, fX5_step_b218_e, fX5_step_b258_e, fX5_step_b239_e, fX5_step_b307_e, fX5_step_b278_e, fX5_step_b406_e, fX5_step_b361_e, fX5_step_b421_e, fX5_step_e, setFlags_c, gM_memory_t, sM_memory_t, gM_reg_t, sM_reg_t, gM_given_t, sM_given_t, gM_counts_t, sM_counts_t, gM_kind_t, sM_kind_t, gM_bytes_t, sM_bytes_t, gM_isOver_t, sM_isOver_t, j0, j1, j2, j3, j4, j5, j6, j7, j8, j9, j10, j11, j12, p10_0, p10_1, p10_2, p10_3, p10_4, p10_5, p10_6, p10_7, p10_8, p10_9, p12_0, p12_1, p12_2, p12_3, p12_4, p12_5, p12_6, p12_7, p12_8, p12_9, p12_10, p12_11, hl, hr, hm, hn2, c0, c4, g0, g4, q1, q2, q3, c1, c2, g1, g2, u0, u1, u2, u4, u5, u6, u7, k10, if_true, if_false, ne_1_0, ne_11_0, ne_11_1, ne_11_2, ne_11_3, ne_11_4, ne_11_5, ne_11_6, ne_11_7, ne_11_8, ne_11_9, ne_11_10, ne_11_12, ne_11_13, ne_11_14, ne_11_15, ne_11_16, ne_11_17, ne_11_18, ne_11_19, ne_11_20, ne_11_21, ne_11_22, ne_11_23, ne_11_24, ne_11_25, ne_11_26, ne_11_27, ne_11_28, ne_11_29, pk_us]
set_option maxRecDepth 20000 in
theorem sp_12 {mem reg inp rq gvn size len pages which exA exT cnt ks : Nat → Int32} {rf im rm lr room trn kd by_ fm fs fp fd lb ov : Int32} {a b n d s : Nat} (ha : a < 256) (hb : b < 256) (hn : n < 256) (hr : reg 9 = nI a) (hm : mem a = nI b) (hn2 : mem ((a + 1) % 256) = nI n) (hk : kM b = 12) (hB : bytB b = 1) (hde : b / 4 % 4 = d) (hse : b % 4 = s) :
    fX5_step (rf, mem, reg, inp, im, rq, rm, lr, gvn, size, len, pages, which, exA, exT, room, trn, cnt, kd, by_, fm, fs, fp, fd, ks, lb, ov) = some (rf, mem, (sfF (upd (upd reg 9 (nI ((a + 1) % 256))) d (reg d ^^^ reg s)) (reg d ^^^ reg s) 0), inp, im, rq, rm, lr, gvn, size, len, pages, which, exA, exT, room, trn, (upd cnt 0 (cnt 0 + 1)), 12, 1, fm, fs, fp, fd, ks, lb, ov) := by
  have hl : fX5_look (rf, mem, reg, inp, im, rq, rm, lr, gvn, size, len, pages, which, exA, exT, room, trn, cnt, kd, by_, fm, fs, fp, fd, ks, lb, ov) (nI a) = some (rf, mem, reg, inp, im, rq, rm, lr, gvn, size, len, pages, which, exA, exT, room, trn, cnt, 12, 1, fm, fs, fp, fd, ks, lb, ov) := by
    rw [look_e ha hb (show gM_memory (rf, mem, reg, inp, im, rq, rm, lr, gvn, size, len, pages, which, exA, exT, room, trn, cnt, kd, by_, fm, fs, fp, fd, ks, lb, ov) a = nI b from hm), hk, hB]
    rfl
  have c0 : (nI a).toNatClampNeg = a := cl_n (by omega)
  have c4 : (nI ((a + 1) % 256)).toNatClampNeg = (a + 1) % 256 := cl_n (by omega)
  have g0 : ∀ {β : Type} (k : Option β), pIn (nI a) 256 k = k := fun k => pIn_n (by omega) (by omega)
  have g4 : ∀ {β : Type} (k : Option β), pIn (nI ((a + 1) % 256)) 256 k = k := fun k => pIn_n (by omega) (by omega)
  have q1 : (nI a + 1) &&& 255 = nI ((a + 1) % 256) := by rw [nI_1, and255 (by omega)]
  have q2 : (nI b >>> ((2 : Int32) &&& 31)) &&& 3 = nI d := by rw [pk_shrN (by omega) _ 2 rfl, pk_andN (by omega) 2 rfl, ← hde]
  have q3 : nI b &&& 3 = nI s := by rw [pk_andN (by omega) 2 rfl, ← hse]
  have hd : d < 4 := by omega
  have hs : s < 4 := by omega
  have c1 : (nI d).toNatClampNeg = d := cl_n (by omega)
  have c2 : (nI s).toNatClampNeg = s := cl_n (by omega)
  have g1 : ∀ {β : Type} (k : Option β), pIn (nI d) 10 k = k := fun k => pIn_n (by omega) (by omega)
  have g2 : ∀ {β : Type} (k : Option β), pIn (nI s) 10 k = k := fun k => pIn_n (by omega) (by omega)
  have u1 : ∀ x : Int32, upd reg 9 x d = reg d := fun x => pk_un (by omega)
  have u2 : ∀ x : Int32, upd reg 9 x s = reg s := fun x => pk_un (by omega)
  have u6 : ∀ x : Int32, upd reg 9 x 6 = reg 6 := fun x => pk_un (by omega)
  have u0 : ∀ x : Int32, upd reg 9 x 0 = reg 0 := fun x => pk_un (by omega)
  have u4 : ∀ x : Int32, upd reg 9 x 4 = reg 4 := fun x => pk_un (by omega)
  have u5 : ∀ x : Int32, upd reg 9 x 5 = reg 5 := fun x => pk_un (by omega)
  have u7 : ∀ x : Int32, upd reg 9 x 7 = reg 7 := fun x => pk_un (by omega)
  have k10 : ∀ x : Int32, upd cnt 0 x 10 = cnt 10 := fun x => pk_un (by omega)
  simp only [-Int32.reduceToNatClampNeg, pLet_e, pB_e2, fX5_push_e, fX5_pop_e, fX5_goes_b79_e, fX5_goes_b67_e, fX5_goes_e, fX5_add_e, fX5_shift_b98_e, fX5_shift_b78_e, fX5_shift_b49_e, fX5_shift_b38_e, fX5_shift_b24_e, fX5_shift_b19_e, fX5_shift_e, fX5_stepOn_b200_e, fX5_stepOn_b300_e, fX5_stepOn_e, fX5_step_b218_e, fX5_step_b258_e, fX5_step_b239_e, fX5_step_b307_e, fX5_step_b278_e, fX5_step_b406_e, fX5_step_b361_e, fX5_step_b421_e, fX5_step_e, setFlags_c, gM_memory_t, sM_memory_t, gM_reg_t, sM_reg_t, gM_given_t, sM_given_t, gM_counts_t, sM_counts_t, gM_kind_t, sM_kind_t, gM_bytes_t, sM_bytes_t, gM_isOver_t, sM_isOver_t, j0, j1, j2, j3, j4, j5, j6, j7, j8, j9, j10, j11, j12, p10_0, p10_1, p10_2, p10_3, p10_4, p10_5, p10_6, p10_7, p10_8, p10_9, p12_0, p12_1, p12_2, p12_3, p12_4, p12_5, p12_6, p12_7, p12_8, p12_9, p12_10, p12_11, hl, hr, hm, hn2, c0, c4, g0, g4, q1, q2, q3, c1, c2, g1, g2, u0, u1, u2, u4, u5, u6, u7, k10, if_true, if_false, ne_1_0, ne_12_0, ne_12_1, ne_12_2, ne_12_3, ne_12_4, ne_12_5, ne_12_6, ne_12_7, ne_12_8, ne_12_9, ne_12_10, ne_12_11, ne_12_13, ne_12_14, ne_12_15, ne_12_16, ne_12_17, ne_12_18, ne_12_19, ne_12_20, ne_12_21, ne_12_22, ne_12_23, ne_12_24, ne_12_25, ne_12_26, ne_12_27, ne_12_28, ne_12_29, pk_us]
set_option maxRecDepth 20000 in
theorem sp_13 {mem reg inp rq gvn size len pages which exA exT cnt ks : Nat → Int32} {rf im rm lr room trn kd by_ fm fs fp fd lb ov : Int32} {a b n d s : Nat} (ha : a < 256) (hb : b < 256) (hn : n < 256) (hr : reg 9 = nI a) (hm : mem a = nI b) (hn2 : mem ((a + 1) % 256) = nI n) (hk : kM b = 13) (hB : bytB b = 1) (hde : b / 4 % 4 = d) (hse : b % 4 = s) :
    fX5_step (rf, mem, reg, inp, im, rq, rm, lr, gvn, size, len, pages, which, exA, exT, room, trn, cnt, kd, by_, fm, fs, fp, fd, ks, lb, ov) = some (rf, mem, (upd (sfF (upd reg 9 (nI ((a + 1) % 256))) (((reg d <<< ((1 : Int32) &&& 31)) &&& 255) ||| 0) (reg d >>> ((7 : Int32) &&& 31))) d (((reg d <<< ((1 : Int32) &&& 31)) &&& 255) ||| 0)), inp, im, rq, rm, lr, gvn, size, len, pages, which, exA, exT, room, trn, (upd cnt 0 (cnt 0 + 1)), 13, 1, fm, fs, fp, fd, ks, lb, ov) := by
  have hl : fX5_look (rf, mem, reg, inp, im, rq, rm, lr, gvn, size, len, pages, which, exA, exT, room, trn, cnt, kd, by_, fm, fs, fp, fd, ks, lb, ov) (nI a) = some (rf, mem, reg, inp, im, rq, rm, lr, gvn, size, len, pages, which, exA, exT, room, trn, cnt, 13, 1, fm, fs, fp, fd, ks, lb, ov) := by
    rw [look_e ha hb (show gM_memory (rf, mem, reg, inp, im, rq, rm, lr, gvn, size, len, pages, which, exA, exT, room, trn, cnt, kd, by_, fm, fs, fp, fd, ks, lb, ov) a = nI b from hm), hk, hB]
    rfl
  have c0 : (nI a).toNatClampNeg = a := cl_n (by omega)
  have c4 : (nI ((a + 1) % 256)).toNatClampNeg = (a + 1) % 256 := cl_n (by omega)
  have g0 : ∀ {β : Type} (k : Option β), pIn (nI a) 256 k = k := fun k => pIn_n (by omega) (by omega)
  have g4 : ∀ {β : Type} (k : Option β), pIn (nI ((a + 1) % 256)) 256 k = k := fun k => pIn_n (by omega) (by omega)
  have q1 : (nI a + 1) &&& 255 = nI ((a + 1) % 256) := by rw [nI_1, and255 (by omega)]
  have q2 : (nI b >>> ((2 : Int32) &&& 31)) &&& 3 = nI d := by rw [pk_shrN (by omega) _ 2 rfl, pk_andN (by omega) 2 rfl, ← hde]
  have q3 : nI b &&& 3 = nI s := by rw [pk_andN (by omega) 2 rfl, ← hse]
  have hd : d < 4 := by omega
  have hs : s < 4 := by omega
  have c1 : (nI d).toNatClampNeg = d := cl_n (by omega)
  have c2 : (nI s).toNatClampNeg = s := cl_n (by omega)
  have g1 : ∀ {β : Type} (k : Option β), pIn (nI d) 10 k = k := fun k => pIn_n (by omega) (by omega)
  have g2 : ∀ {β : Type} (k : Option β), pIn (nI s) 10 k = k := fun k => pIn_n (by omega) (by omega)
  have u1 : ∀ x : Int32, upd reg 9 x d = reg d := fun x => pk_un (by omega)
  have u2 : ∀ x : Int32, upd reg 9 x s = reg s := fun x => pk_un (by omega)
  have u6 : ∀ x : Int32, upd reg 9 x 6 = reg 6 := fun x => pk_un (by omega)
  have u0 : ∀ x : Int32, upd reg 9 x 0 = reg 0 := fun x => pk_un (by omega)
  have u4 : ∀ x : Int32, upd reg 9 x 4 = reg 4 := fun x => pk_un (by omega)
  have u5 : ∀ x : Int32, upd reg 9 x 5 = reg 5 := fun x => pk_un (by omega)
  have u7 : ∀ x : Int32, upd reg 9 x 7 = reg 7 := fun x => pk_un (by omega)
  have k10 : ∀ x : Int32, upd cnt 0 x 10 = cnt 10 := fun x => pk_un (by omega)
  simp only [-Int32.reduceToNatClampNeg, pLet_e, pB_e2, fX5_push_e, fX5_pop_e, fX5_goes_b79_e, fX5_goes_b67_e, fX5_goes_e, fX5_add_e, fX5_shift_b98_e, fX5_shift_b78_e, fX5_shift_b49_e, fX5_shift_b38_e, fX5_shift_b24_e, fX5_shift_b19_e, fX5_shift_e, fX5_stepOn_b200_e, fX5_stepOn_b300_e, fX5_stepOn_e, fX5_step_b218_e, fX5_step_b258_e, fX5_step_b239_e, fX5_step_b307_e, fX5_step_b278_e, fX5_step_b406_e, fX5_step_b361_e, fX5_step_b421_e, fX5_step_e, setFlags_c, gM_memory_t, sM_memory_t, gM_reg_t, sM_reg_t, gM_given_t, sM_given_t, gM_counts_t, sM_counts_t, gM_kind_t, sM_kind_t, gM_bytes_t, sM_bytes_t, gM_isOver_t, sM_isOver_t, j0, j1, j2, j3, j4, j5, j6, j7, j8, j9, j10, j11, j12, p10_0, p10_1, p10_2, p10_3, p10_4, p10_5, p10_6, p10_7, p10_8, p10_9, p12_0, p12_1, p12_2, p12_3, p12_4, p12_5, p12_6, p12_7, p12_8, p12_9, p12_10, p12_11, hl, hr, hm, hn2, c0, c4, g0, g4, q1, q2, q3, c1, c2, g1, g2, u0, u1, u2, u4, u5, u6, u7, k10, if_true, if_false, ne_1_0, ne_13_0, ne_13_1, ne_13_2, ne_13_3, ne_13_4, ne_13_5, ne_13_6, ne_13_7, ne_13_8, ne_13_9, ne_13_10, ne_13_11, ne_13_12, ne_13_14, ne_13_15, ne_13_16, ne_13_17, ne_13_18, ne_13_19, ne_13_20, ne_13_21, ne_13_22, ne_13_23, ne_13_24, ne_13_25, ne_13_26, ne_13_27, ne_13_28, ne_13_29]
set_option maxRecDepth 20000 in
theorem sp_14 {mem reg inp rq gvn size len pages which exA exT cnt ks : Nat → Int32} {rf im rm lr room trn kd by_ fm fs fp fd lb ov : Int32} {a b n d s : Nat} (ha : a < 256) (hb : b < 256) (hn : n < 256) (hr : reg 9 = nI a) (hm : mem a = nI b) (hn2 : mem ((a + 1) % 256) = nI n) (hk : kM b = 14) (hB : bytB b = 1) (hde : b / 4 % 4 = d) (hse : b % 4 = s) :
    fX5_step (rf, mem, reg, inp, im, rq, rm, lr, gvn, size, len, pages, which, exA, exT, room, trn, cnt, kd, by_, fm, fs, fp, fd, ks, lb, ov) = some (rf, mem, (upd (sfF (upd reg 9 (nI ((a + 1) % 256))) ((reg d >>> ((1 : Int32) &&& 31)) ||| ((0 : Int32) <<< ((7 : Int32) &&& 31))) (reg d &&& 1)) d ((reg d >>> ((1 : Int32) &&& 31)) ||| ((0 : Int32) <<< ((7 : Int32) &&& 31)))), inp, im, rq, rm, lr, gvn, size, len, pages, which, exA, exT, room, trn, (upd cnt 0 (cnt 0 + 1)), 14, 1, fm, fs, fp, fd, ks, lb, ov) := by
  have hl : fX5_look (rf, mem, reg, inp, im, rq, rm, lr, gvn, size, len, pages, which, exA, exT, room, trn, cnt, kd, by_, fm, fs, fp, fd, ks, lb, ov) (nI a) = some (rf, mem, reg, inp, im, rq, rm, lr, gvn, size, len, pages, which, exA, exT, room, trn, cnt, 14, 1, fm, fs, fp, fd, ks, lb, ov) := by
    rw [look_e ha hb (show gM_memory (rf, mem, reg, inp, im, rq, rm, lr, gvn, size, len, pages, which, exA, exT, room, trn, cnt, kd, by_, fm, fs, fp, fd, ks, lb, ov) a = nI b from hm), hk, hB]
    rfl
  have c0 : (nI a).toNatClampNeg = a := cl_n (by omega)
  have c4 : (nI ((a + 1) % 256)).toNatClampNeg = (a + 1) % 256 := cl_n (by omega)
  have g0 : ∀ {β : Type} (k : Option β), pIn (nI a) 256 k = k := fun k => pIn_n (by omega) (by omega)
  have g4 : ∀ {β : Type} (k : Option β), pIn (nI ((a + 1) % 256)) 256 k = k := fun k => pIn_n (by omega) (by omega)
  have q1 : (nI a + 1) &&& 255 = nI ((a + 1) % 256) := by rw [nI_1, and255 (by omega)]
  have q2 : (nI b >>> ((2 : Int32) &&& 31)) &&& 3 = nI d := by rw [pk_shrN (by omega) _ 2 rfl, pk_andN (by omega) 2 rfl, ← hde]
  have q3 : nI b &&& 3 = nI s := by rw [pk_andN (by omega) 2 rfl, ← hse]
  have hd : d < 4 := by omega
  have hs : s < 4 := by omega
  have c1 : (nI d).toNatClampNeg = d := cl_n (by omega)
  have c2 : (nI s).toNatClampNeg = s := cl_n (by omega)
  have g1 : ∀ {β : Type} (k : Option β), pIn (nI d) 10 k = k := fun k => pIn_n (by omega) (by omega)
  have g2 : ∀ {β : Type} (k : Option β), pIn (nI s) 10 k = k := fun k => pIn_n (by omega) (by omega)
  have u1 : ∀ x : Int32, upd reg 9 x d = reg d := fun x => pk_un (by omega)
  have u2 : ∀ x : Int32, upd reg 9 x s = reg s := fun x => pk_un (by omega)
  have u6 : ∀ x : Int32, upd reg 9 x 6 = reg 6 := fun x => pk_un (by omega)
  have u0 : ∀ x : Int32, upd reg 9 x 0 = reg 0 := fun x => pk_un (by omega)
  have u4 : ∀ x : Int32, upd reg 9 x 4 = reg 4 := fun x => pk_un (by omega)
  have u5 : ∀ x : Int32, upd reg 9 x 5 = reg 5 := fun x => pk_un (by omega)
  have u7 : ∀ x : Int32, upd reg 9 x 7 = reg 7 := fun x => pk_un (by omega)
  have k10 : ∀ x : Int32, upd cnt 0 x 10 = cnt 10 := fun x => pk_un (by omega)
  simp only [-Int32.reduceToNatClampNeg, pLet_e, pB_e2, fX5_push_e, fX5_pop_e, fX5_goes_b79_e, fX5_goes_b67_e, fX5_goes_e, fX5_add_e, fX5_shift_b98_e, fX5_shift_b78_e, fX5_shift_b49_e, fX5_shift_b38_e, fX5_shift_b24_e, fX5_shift_b19_e, fX5_shift_e, fX5_stepOn_b200_e, fX5_stepOn_b300_e, fX5_stepOn_e, fX5_step_b218_e, fX5_step_b258_e, fX5_step_b239_e, fX5_step_b307_e, fX5_step_b278_e, fX5_step_b406_e, fX5_step_b361_e, fX5_step_b421_e, fX5_step_e, setFlags_c, gM_memory_t, sM_memory_t, gM_reg_t, sM_reg_t, gM_given_t, sM_given_t, gM_counts_t, sM_counts_t, gM_kind_t, sM_kind_t, gM_bytes_t, sM_bytes_t, gM_isOver_t, sM_isOver_t, j0, j1, j2, j3, j4, j5, j6, j7, j8, j9, j10, j11, j12, p10_0, p10_1, p10_2, p10_3, p10_4, p10_5, p10_6, p10_7, p10_8, p10_9, p12_0, p12_1, p12_2, p12_3, p12_4, p12_5, p12_6, p12_7, p12_8, p12_9, p12_10, p12_11, hl, hr, hm, hn2, c0, c4, g0, g4, q1, q2, q3, c1, c2, g1, g2, u0, u1, u2, u4, u5, u6, u7, k10, if_true, if_false, ne_1_0, ne_14_0, ne_14_1, ne_14_2, ne_14_3, ne_14_4, ne_14_5, ne_14_6, ne_14_7, ne_14_8, ne_14_9, ne_14_10, ne_14_11, ne_14_12, ne_14_13, ne_14_15, ne_14_16, ne_14_17, ne_14_18, ne_14_19, ne_14_20, ne_14_21, ne_14_22, ne_14_23, ne_14_24, ne_14_25, ne_14_26, ne_14_27, ne_14_28, ne_14_29]
set_option maxRecDepth 20000 in
theorem sp_15 {mem reg inp rq gvn size len pages which exA exT cnt ks : Nat → Int32} {rf im rm lr room trn kd by_ fm fs fp fd lb ov : Int32} {a b n d s : Nat} (ha : a < 256) (hb : b < 256) (hn : n < 256) (hr : reg 9 = nI a) (hm : mem a = nI b) (hn2 : mem ((a + 1) % 256) = nI n) (hk : kM b = 15) (hB : bytB b = 1) (hde : b / 4 % 4 = d) (hse : b % 4 = s) :
    fX5_step (rf, mem, reg, inp, im, rq, rm, lr, gvn, size, len, pages, which, exA, exT, room, trn, cnt, kd, by_, fm, fs, fp, fd, ks, lb, ov) = some (rf, mem, (upd (sfF (upd reg 9 (nI ((a + 1) % 256))) (((reg d <<< ((1 : Int32) &&& 31)) &&& 255) ||| reg 6) (reg d >>> ((7 : Int32) &&& 31))) d (((reg d <<< ((1 : Int32) &&& 31)) &&& 255) ||| reg 6)), inp, im, rq, rm, lr, gvn, size, len, pages, which, exA, exT, room, trn, (upd cnt 0 (cnt 0 + 1)), 15, 1, fm, fs, fp, fd, ks, lb, ov) := by
  have hl : fX5_look (rf, mem, reg, inp, im, rq, rm, lr, gvn, size, len, pages, which, exA, exT, room, trn, cnt, kd, by_, fm, fs, fp, fd, ks, lb, ov) (nI a) = some (rf, mem, reg, inp, im, rq, rm, lr, gvn, size, len, pages, which, exA, exT, room, trn, cnt, 15, 1, fm, fs, fp, fd, ks, lb, ov) := by
    rw [look_e ha hb (show gM_memory (rf, mem, reg, inp, im, rq, rm, lr, gvn, size, len, pages, which, exA, exT, room, trn, cnt, kd, by_, fm, fs, fp, fd, ks, lb, ov) a = nI b from hm), hk, hB]
    rfl
  have c0 : (nI a).toNatClampNeg = a := cl_n (by omega)
  have c4 : (nI ((a + 1) % 256)).toNatClampNeg = (a + 1) % 256 := cl_n (by omega)
  have g0 : ∀ {β : Type} (k : Option β), pIn (nI a) 256 k = k := fun k => pIn_n (by omega) (by omega)
  have g4 : ∀ {β : Type} (k : Option β), pIn (nI ((a + 1) % 256)) 256 k = k := fun k => pIn_n (by omega) (by omega)
  have q1 : (nI a + 1) &&& 255 = nI ((a + 1) % 256) := by rw [nI_1, and255 (by omega)]
  have q2 : (nI b >>> ((2 : Int32) &&& 31)) &&& 3 = nI d := by rw [pk_shrN (by omega) _ 2 rfl, pk_andN (by omega) 2 rfl, ← hde]
  have q3 : nI b &&& 3 = nI s := by rw [pk_andN (by omega) 2 rfl, ← hse]
  have hd : d < 4 := by omega
  have hs : s < 4 := by omega
  have c1 : (nI d).toNatClampNeg = d := cl_n (by omega)
  have c2 : (nI s).toNatClampNeg = s := cl_n (by omega)
  have g1 : ∀ {β : Type} (k : Option β), pIn (nI d) 10 k = k := fun k => pIn_n (by omega) (by omega)
  have g2 : ∀ {β : Type} (k : Option β), pIn (nI s) 10 k = k := fun k => pIn_n (by omega) (by omega)
  have u1 : ∀ x : Int32, upd reg 9 x d = reg d := fun x => pk_un (by omega)
  have u2 : ∀ x : Int32, upd reg 9 x s = reg s := fun x => pk_un (by omega)
  have u6 : ∀ x : Int32, upd reg 9 x 6 = reg 6 := fun x => pk_un (by omega)
  have u0 : ∀ x : Int32, upd reg 9 x 0 = reg 0 := fun x => pk_un (by omega)
  have u4 : ∀ x : Int32, upd reg 9 x 4 = reg 4 := fun x => pk_un (by omega)
  have u5 : ∀ x : Int32, upd reg 9 x 5 = reg 5 := fun x => pk_un (by omega)
  have u7 : ∀ x : Int32, upd reg 9 x 7 = reg 7 := fun x => pk_un (by omega)
  have k10 : ∀ x : Int32, upd cnt 0 x 10 = cnt 10 := fun x => pk_un (by omega)
  simp only [-Int32.reduceToNatClampNeg, pLet_e, pB_e2, fX5_push_e, fX5_pop_e, fX5_goes_b79_e, fX5_goes_b67_e, fX5_goes_e, fX5_add_e, fX5_shift_b98_e, fX5_shift_b78_e, fX5_shift_b49_e, fX5_shift_b38_e, fX5_shift_b24_e, fX5_shift_b19_e, fX5_shift_e, fX5_stepOn_b200_e, fX5_stepOn_b300_e, fX5_stepOn_e, fX5_step_b218_e, fX5_step_b258_e, fX5_step_b239_e, fX5_step_b307_e, fX5_step_b278_e, fX5_step_b406_e, fX5_step_b361_e, fX5_step_b421_e, fX5_step_e, setFlags_c, gM_memory_t, sM_memory_t, gM_reg_t, sM_reg_t, gM_given_t, sM_given_t, gM_counts_t, sM_counts_t, gM_kind_t, sM_kind_t, gM_bytes_t, sM_bytes_t, gM_isOver_t, sM_isOver_t, j0, j1, j2, j3, j4, j5, j6, j7, j8, j9, j10, j11, j12, p10_0, p10_1, p10_2, p10_3, p10_4, p10_5, p10_6, p10_7, p10_8, p10_9, p12_0, p12_1, p12_2, p12_3, p12_4, p12_5, p12_6, p12_7, p12_8, p12_9, p12_10, p12_11, hl, hr, hm, hn2, c0, c4, g0, g4, q1, q2, q3, c1, c2, g1, g2, u0, u1, u2, u4, u5, u6, u7, k10, if_true, if_false, ne_1_0, ne_15_0, ne_15_1, ne_15_2, ne_15_3, ne_15_4, ne_15_5, ne_15_6, ne_15_7, ne_15_8, ne_15_9, ne_15_10, ne_15_11, ne_15_12, ne_15_13, ne_15_14, ne_15_16, ne_15_17, ne_15_18, ne_15_19, ne_15_20, ne_15_21, ne_15_22, ne_15_23, ne_15_24, ne_15_25, ne_15_26, ne_15_27, ne_15_28, ne_15_29]
set_option maxRecDepth 20000 in
theorem sp_16 {mem reg inp rq gvn size len pages which exA exT cnt ks : Nat → Int32} {rf im rm lr room trn kd by_ fm fs fp fd lb ov : Int32} {a b n d s : Nat} (ha : a < 256) (hb : b < 256) (hn : n < 256) (hr : reg 9 = nI a) (hm : mem a = nI b) (hn2 : mem ((a + 1) % 256) = nI n) (hk : kM b = 16) (hB : bytB b = 1) (hde : b / 4 % 4 = d) (hse : b % 4 = s) :
    fX5_step (rf, mem, reg, inp, im, rq, rm, lr, gvn, size, len, pages, which, exA, exT, room, trn, cnt, kd, by_, fm, fs, fp, fd, ks, lb, ov) = some (rf, mem, (upd (sfF (upd reg 9 (nI ((a + 1) % 256))) ((reg d >>> ((1 : Int32) &&& 31)) ||| (reg 6 <<< ((7 : Int32) &&& 31))) (reg d &&& 1)) d ((reg d >>> ((1 : Int32) &&& 31)) ||| (reg 6 <<< ((7 : Int32) &&& 31)))), inp, im, rq, rm, lr, gvn, size, len, pages, which, exA, exT, room, trn, (upd cnt 0 (cnt 0 + 1)), 16, 1, fm, fs, fp, fd, ks, lb, ov) := by
  have hl : fX5_look (rf, mem, reg, inp, im, rq, rm, lr, gvn, size, len, pages, which, exA, exT, room, trn, cnt, kd, by_, fm, fs, fp, fd, ks, lb, ov) (nI a) = some (rf, mem, reg, inp, im, rq, rm, lr, gvn, size, len, pages, which, exA, exT, room, trn, cnt, 16, 1, fm, fs, fp, fd, ks, lb, ov) := by
    rw [look_e ha hb (show gM_memory (rf, mem, reg, inp, im, rq, rm, lr, gvn, size, len, pages, which, exA, exT, room, trn, cnt, kd, by_, fm, fs, fp, fd, ks, lb, ov) a = nI b from hm), hk, hB]
    rfl
  have c0 : (nI a).toNatClampNeg = a := cl_n (by omega)
  have c4 : (nI ((a + 1) % 256)).toNatClampNeg = (a + 1) % 256 := cl_n (by omega)
  have g0 : ∀ {β : Type} (k : Option β), pIn (nI a) 256 k = k := fun k => pIn_n (by omega) (by omega)
  have g4 : ∀ {β : Type} (k : Option β), pIn (nI ((a + 1) % 256)) 256 k = k := fun k => pIn_n (by omega) (by omega)
  have q1 : (nI a + 1) &&& 255 = nI ((a + 1) % 256) := by rw [nI_1, and255 (by omega)]
  have q2 : (nI b >>> ((2 : Int32) &&& 31)) &&& 3 = nI d := by rw [pk_shrN (by omega) _ 2 rfl, pk_andN (by omega) 2 rfl, ← hde]
  have q3 : nI b &&& 3 = nI s := by rw [pk_andN (by omega) 2 rfl, ← hse]
  have hd : d < 4 := by omega
  have hs : s < 4 := by omega
  have c1 : (nI d).toNatClampNeg = d := cl_n (by omega)
  have c2 : (nI s).toNatClampNeg = s := cl_n (by omega)
  have g1 : ∀ {β : Type} (k : Option β), pIn (nI d) 10 k = k := fun k => pIn_n (by omega) (by omega)
  have g2 : ∀ {β : Type} (k : Option β), pIn (nI s) 10 k = k := fun k => pIn_n (by omega) (by omega)
  have u1 : ∀ x : Int32, upd reg 9 x d = reg d := fun x => pk_un (by omega)
  have u2 : ∀ x : Int32, upd reg 9 x s = reg s := fun x => pk_un (by omega)
  have u6 : ∀ x : Int32, upd reg 9 x 6 = reg 6 := fun x => pk_un (by omega)
  have u0 : ∀ x : Int32, upd reg 9 x 0 = reg 0 := fun x => pk_un (by omega)
  have u4 : ∀ x : Int32, upd reg 9 x 4 = reg 4 := fun x => pk_un (by omega)
  have u5 : ∀ x : Int32, upd reg 9 x 5 = reg 5 := fun x => pk_un (by omega)
  have u7 : ∀ x : Int32, upd reg 9 x 7 = reg 7 := fun x => pk_un (by omega)
  have k10 : ∀ x : Int32, upd cnt 0 x 10 = cnt 10 := fun x => pk_un (by omega)
  simp only [-Int32.reduceToNatClampNeg, pLet_e, pB_e2, fX5_push_e, fX5_pop_e, fX5_goes_b79_e, fX5_goes_b67_e, fX5_goes_e, fX5_add_e, fX5_shift_b98_e, fX5_shift_b78_e, fX5_shift_b49_e, fX5_shift_b38_e, fX5_shift_b24_e, fX5_shift_b19_e, fX5_shift_e, fX5_stepOn_b200_e, fX5_stepOn_b300_e, fX5_stepOn_e, fX5_step_b218_e, fX5_step_b258_e, fX5_step_b239_e, fX5_step_b307_e, fX5_step_b278_e, fX5_step_b406_e, fX5_step_b361_e, fX5_step_b421_e, fX5_step_e, setFlags_c, gM_memory_t, sM_memory_t, gM_reg_t, sM_reg_t, gM_given_t, sM_given_t, gM_counts_t, sM_counts_t, gM_kind_t, sM_kind_t, gM_bytes_t, sM_bytes_t, gM_isOver_t, sM_isOver_t, j0, j1, j2, j3, j4, j5, j6, j7, j8, j9, j10, j11, j12, p10_0, p10_1, p10_2, p10_3, p10_4, p10_5, p10_6, p10_7, p10_8, p10_9, p12_0, p12_1, p12_2, p12_3, p12_4, p12_5, p12_6, p12_7, p12_8, p12_9, p12_10, p12_11, hl, hr, hm, hn2, c0, c4, g0, g4, q1, q2, q3, c1, c2, g1, g2, u0, u1, u2, u4, u5, u6, u7, k10, if_true, if_false, ne_1_0, ne_16_0, ne_16_1, ne_16_2, ne_16_3, ne_16_4, ne_16_5, ne_16_6, ne_16_7, ne_16_8, ne_16_9, ne_16_10, ne_16_11, ne_16_12, ne_16_13, ne_16_14, ne_16_15, ne_16_17, ne_16_18, ne_16_19, ne_16_20, ne_16_21, ne_16_22, ne_16_23, ne_16_24, ne_16_25, ne_16_26, ne_16_27, ne_16_28, ne_16_29]
set_option maxRecDepth 20000 in
theorem sp_18 {mem reg inp rq gvn size len pages which exA exT cnt ks : Nat → Int32} {rf im rm lr room trn kd by_ fm fs fp fd lb ov : Int32} {a b n d s : Nat} (ha : a < 256) (hb : b < 256) (hn : n < 256) (hr : reg 9 = nI a) (hm : mem a = nI b) (hn2 : mem ((a + 1) % 256) = nI n) (hk : kM b = 18) (hB : bytB b = 2) (hde : b / 4 % 4 = d) (hse : b % 4 = s) :
    fX5_step (rf, mem, reg, inp, im, rq, rm, lr, gvn, size, len, pages, which, exA, exT, room, trn, cnt, kd, by_, fm, fs, fp, fd, ks, lb, ov) = some (rf, mem, (upd (sfF (upd reg 9 ((nI a + 2) &&& 255)) ((reg d + nI n) + 0) (((reg d + nI n) + 0) >>> ((8 : Int32) &&& 31))) d (((reg d + nI n) + 0) &&& 255)), inp, im, rq, rm, lr, gvn, size, len, pages, which, exA, exT, room, trn, (upd cnt 0 (cnt 0 + 1)), 18, 2, fm, fs, fp, fd, ks, lb, ov) := by
  have hl : fX5_look (rf, mem, reg, inp, im, rq, rm, lr, gvn, size, len, pages, which, exA, exT, room, trn, cnt, kd, by_, fm, fs, fp, fd, ks, lb, ov) (nI a) = some (rf, mem, reg, inp, im, rq, rm, lr, gvn, size, len, pages, which, exA, exT, room, trn, cnt, 18, 2, fm, fs, fp, fd, ks, lb, ov) := by
    rw [look_e ha hb (show gM_memory (rf, mem, reg, inp, im, rq, rm, lr, gvn, size, len, pages, which, exA, exT, room, trn, cnt, kd, by_, fm, fs, fp, fd, ks, lb, ov) a = nI b from hm), hk, hB]
    rfl
  have c0 : (nI a).toNatClampNeg = a := cl_n (by omega)
  have c4 : (nI ((a + 1) % 256)).toNatClampNeg = (a + 1) % 256 := cl_n (by omega)
  have g0 : ∀ {β : Type} (k : Option β), pIn (nI a) 256 k = k := fun k => pIn_n (by omega) (by omega)
  have g4 : ∀ {β : Type} (k : Option β), pIn (nI ((a + 1) % 256)) 256 k = k := fun k => pIn_n (by omega) (by omega)
  have q1 : (nI a + 1) &&& 255 = nI ((a + 1) % 256) := by rw [nI_1, and255 (by omega)]
  have q2 : (nI b >>> ((2 : Int32) &&& 31)) &&& 3 = nI d := by rw [pk_shrN (by omega) _ 2 rfl, pk_andN (by omega) 2 rfl, ← hde]
  have q3 : nI b &&& 3 = nI s := by rw [pk_andN (by omega) 2 rfl, ← hse]
  have hd : d < 4 := by omega
  have hs : s < 4 := by omega
  have c1 : (nI d).toNatClampNeg = d := cl_n (by omega)
  have c2 : (nI s).toNatClampNeg = s := cl_n (by omega)
  have g1 : ∀ {β : Type} (k : Option β), pIn (nI d) 10 k = k := fun k => pIn_n (by omega) (by omega)
  have g2 : ∀ {β : Type} (k : Option β), pIn (nI s) 10 k = k := fun k => pIn_n (by omega) (by omega)
  have u1 : ∀ x : Int32, upd reg 9 x d = reg d := fun x => pk_un (by omega)
  have u2 : ∀ x : Int32, upd reg 9 x s = reg s := fun x => pk_un (by omega)
  have u6 : ∀ x : Int32, upd reg 9 x 6 = reg 6 := fun x => pk_un (by omega)
  have u0 : ∀ x : Int32, upd reg 9 x 0 = reg 0 := fun x => pk_un (by omega)
  have u4 : ∀ x : Int32, upd reg 9 x 4 = reg 4 := fun x => pk_un (by omega)
  have u5 : ∀ x : Int32, upd reg 9 x 5 = reg 5 := fun x => pk_un (by omega)
  have u7 : ∀ x : Int32, upd reg 9 x 7 = reg 7 := fun x => pk_un (by omega)
  have k10 : ∀ x : Int32, upd cnt 0 x 10 = cnt 10 := fun x => pk_un (by omega)
  simp only [-Int32.reduceToNatClampNeg, pLet_e, pB_e2, fX5_push_e, fX5_pop_e, fX5_goes_b79_e, fX5_goes_b67_e, fX5_goes_e, fX5_add_e, fX5_shift_b98_e, fX5_shift_b78_e, fX5_shift_b49_e, fX5_shift_b38_e, fX5_shift_b24_e, fX5_shift_b19_e, fX5_shift_e, fX5_stepOn_b200_e, fX5_stepOn_b300_e, fX5_stepOn_e, fX5_step_b218_e, fX5_step_b258_e, fX5_step_b239_e, fX5_step_b307_e, fX5_step_b278_e, fX5_step_b406_e, fX5_step_b361_e, fX5_step_b421_e, fX5_step_e, setFlags_c, gM_memory_t, sM_memory_t, gM_reg_t, sM_reg_t, gM_given_t, sM_given_t, gM_counts_t, sM_counts_t, gM_kind_t, sM_kind_t, gM_bytes_t, sM_bytes_t, gM_isOver_t, sM_isOver_t, j0, j1, j2, j3, j4, j5, j6, j7, j8, j9, j10, j11, j12, p10_0, p10_1, p10_2, p10_3, p10_4, p10_5, p10_6, p10_7, p10_8, p10_9, p12_0, p12_1, p12_2, p12_3, p12_4, p12_5, p12_6, p12_7, p12_8, p12_9, p12_10, p12_11, hl, hr, hm, hn2, c0, c4, g0, g4, q1, q2, q3, c1, c2, g1, g2, u0, u1, u2, u4, u5, u6, u7, k10, if_true, if_false, ne_1_0, ne_18_0, ne_18_1, ne_18_2, ne_18_3, ne_18_4, ne_18_5, ne_18_6, ne_18_7, ne_18_8, ne_18_9, ne_18_10, ne_18_11, ne_18_12, ne_18_13, ne_18_14, ne_18_15, ne_18_16, ne_18_17, ne_18_19, ne_18_20, ne_18_21, ne_18_22, ne_18_23, ne_18_24, ne_18_25, ne_18_26, ne_18_27, ne_18_28, ne_18_29]
set_option maxRecDepth 20000 in
theorem sp_19 {mem reg inp rq gvn size len pages which exA exT cnt ks : Nat → Int32} {rf im rm lr room trn kd by_ fm fs fp fd lb ov : Int32} {a b n d s : Nat} (ha : a < 256) (hb : b < 256) (hn : n < 256) (hr : reg 9 = nI a) (hm : mem a = nI b) (hn2 : mem ((a + 1) % 256) = nI n) (hk : kM b = 19) (hB : bytB b = 2) (hde : b / 4 % 4 = d) (hse : b % 4 = s) :
    fX5_step (rf, mem, reg, inp, im, rq, rm, lr, gvn, size, len, pages, which, exA, exT, room, trn, cnt, kd, by_, fm, fs, fp, fd, ks, lb, ov) = some (rf, mem, (sfF (upd reg 9 ((nI a + 2) &&& 255)) ((reg d - nI n) &&& 255) (if (reg d - nI n) < 0 then 1 else 0)), inp, im, rq, rm, lr, gvn, size, len, pages, which, exA, exT, room, trn, (upd cnt 0 (cnt 0 + 1)), 19, 2, fm, fs, fp, fd, ks, lb, ov) := by
  have hl : fX5_look (rf, mem, reg, inp, im, rq, rm, lr, gvn, size, len, pages, which, exA, exT, room, trn, cnt, kd, by_, fm, fs, fp, fd, ks, lb, ov) (nI a) = some (rf, mem, reg, inp, im, rq, rm, lr, gvn, size, len, pages, which, exA, exT, room, trn, cnt, 19, 2, fm, fs, fp, fd, ks, lb, ov) := by
    rw [look_e ha hb (show gM_memory (rf, mem, reg, inp, im, rq, rm, lr, gvn, size, len, pages, which, exA, exT, room, trn, cnt, kd, by_, fm, fs, fp, fd, ks, lb, ov) a = nI b from hm), hk, hB]
    rfl
  have c0 : (nI a).toNatClampNeg = a := cl_n (by omega)
  have c4 : (nI ((a + 1) % 256)).toNatClampNeg = (a + 1) % 256 := cl_n (by omega)
  have g0 : ∀ {β : Type} (k : Option β), pIn (nI a) 256 k = k := fun k => pIn_n (by omega) (by omega)
  have g4 : ∀ {β : Type} (k : Option β), pIn (nI ((a + 1) % 256)) 256 k = k := fun k => pIn_n (by omega) (by omega)
  have q1 : (nI a + 1) &&& 255 = nI ((a + 1) % 256) := by rw [nI_1, and255 (by omega)]
  have q2 : (nI b >>> ((2 : Int32) &&& 31)) &&& 3 = nI d := by rw [pk_shrN (by omega) _ 2 rfl, pk_andN (by omega) 2 rfl, ← hde]
  have q3 : nI b &&& 3 = nI s := by rw [pk_andN (by omega) 2 rfl, ← hse]
  have hd : d < 4 := by omega
  have hs : s < 4 := by omega
  have c1 : (nI d).toNatClampNeg = d := cl_n (by omega)
  have c2 : (nI s).toNatClampNeg = s := cl_n (by omega)
  have g1 : ∀ {β : Type} (k : Option β), pIn (nI d) 10 k = k := fun k => pIn_n (by omega) (by omega)
  have g2 : ∀ {β : Type} (k : Option β), pIn (nI s) 10 k = k := fun k => pIn_n (by omega) (by omega)
  have u1 : ∀ x : Int32, upd reg 9 x d = reg d := fun x => pk_un (by omega)
  have u2 : ∀ x : Int32, upd reg 9 x s = reg s := fun x => pk_un (by omega)
  have u6 : ∀ x : Int32, upd reg 9 x 6 = reg 6 := fun x => pk_un (by omega)
  have u0 : ∀ x : Int32, upd reg 9 x 0 = reg 0 := fun x => pk_un (by omega)
  have u4 : ∀ x : Int32, upd reg 9 x 4 = reg 4 := fun x => pk_un (by omega)
  have u5 : ∀ x : Int32, upd reg 9 x 5 = reg 5 := fun x => pk_un (by omega)
  have u7 : ∀ x : Int32, upd reg 9 x 7 = reg 7 := fun x => pk_un (by omega)
  have k10 : ∀ x : Int32, upd cnt 0 x 10 = cnt 10 := fun x => pk_un (by omega)
  simp only [-Int32.reduceToNatClampNeg, pLet_e, pB_e2, fX5_push_e, fX5_pop_e, fX5_goes_b79_e, fX5_goes_b67_e, fX5_goes_e, fX5_add_e, fX5_shift_b98_e, fX5_shift_b78_e, fX5_shift_b49_e, fX5_shift_b38_e, fX5_shift_b24_e, fX5_shift_b19_e, fX5_shift_e, fX5_stepOn_b200_e, fX5_stepOn_b300_e, fX5_stepOn_e, fX5_step_b218_e, fX5_step_b258_e, fX5_step_b239_e, fX5_step_b307_e, fX5_step_b278_e, fX5_step_b406_e, fX5_step_b361_e, fX5_step_b421_e, fX5_step_e, setFlags_c, gM_memory_t, sM_memory_t, gM_reg_t, sM_reg_t, gM_given_t, sM_given_t, gM_counts_t, sM_counts_t, gM_kind_t, sM_kind_t, gM_bytes_t, sM_bytes_t, gM_isOver_t, sM_isOver_t, j0, j1, j2, j3, j4, j5, j6, j7, j8, j9, j10, j11, j12, p10_0, p10_1, p10_2, p10_3, p10_4, p10_5, p10_6, p10_7, p10_8, p10_9, p12_0, p12_1, p12_2, p12_3, p12_4, p12_5, p12_6, p12_7, p12_8, p12_9, p12_10, p12_11, hl, hr, hm, hn2, c0, c4, g0, g4, q1, q2, q3, c1, c2, g1, g2, u0, u1, u2, u4, u5, u6, u7, k10, if_true, if_false, ne_1_0, ne_19_0, ne_19_1, ne_19_2, ne_19_3, ne_19_4, ne_19_5, ne_19_6, ne_19_7, ne_19_8, ne_19_9, ne_19_10, ne_19_11, ne_19_12, ne_19_13, ne_19_14, ne_19_15, ne_19_16, ne_19_17, ne_19_18, ne_19_20, ne_19_21, ne_19_22, ne_19_23, ne_19_24, ne_19_25, ne_19_26, ne_19_27, ne_19_28, ne_19_29, less_c]
set_option maxRecDepth 20000 in
theorem sp_20 {mem reg inp rq gvn size len pages which exA exT cnt ks : Nat → Int32} {rf im rm lr room trn kd by_ fm fs fp fd lb ov : Int32} {a b n d s : Nat} (ha : a < 256) (hb : b < 256) (hn : n < 256) (hr : reg 9 = nI a) (hm : mem a = nI b) (hn2 : mem ((a + 1) % 256) = nI n) (hk : kM b = 20) (hB : bytB b = 2) (hde : b / 4 % 4 = d) (hse : b % 4 = s) :
    fX5_step (rf, mem, reg, inp, im, rq, rm, lr, gvn, size, len, pages, which, exA, exT, room, trn, cnt, kd, by_, fm, fs, fp, fd, ks, lb, ov) = some (rf, mem, (sfF (upd (upd reg 9 ((nI a + 2) &&& 255)) d (reg d ^^^ nI n)) (reg d ^^^ nI n) 0), inp, im, rq, rm, lr, gvn, size, len, pages, which, exA, exT, room, trn, (upd cnt 0 (cnt 0 + 1)), 20, 2, fm, fs, fp, fd, ks, lb, ov) := by
  have hl : fX5_look (rf, mem, reg, inp, im, rq, rm, lr, gvn, size, len, pages, which, exA, exT, room, trn, cnt, kd, by_, fm, fs, fp, fd, ks, lb, ov) (nI a) = some (rf, mem, reg, inp, im, rq, rm, lr, gvn, size, len, pages, which, exA, exT, room, trn, cnt, 20, 2, fm, fs, fp, fd, ks, lb, ov) := by
    rw [look_e ha hb (show gM_memory (rf, mem, reg, inp, im, rq, rm, lr, gvn, size, len, pages, which, exA, exT, room, trn, cnt, kd, by_, fm, fs, fp, fd, ks, lb, ov) a = nI b from hm), hk, hB]
    rfl
  have c0 : (nI a).toNatClampNeg = a := cl_n (by omega)
  have c4 : (nI ((a + 1) % 256)).toNatClampNeg = (a + 1) % 256 := cl_n (by omega)
  have g0 : ∀ {β : Type} (k : Option β), pIn (nI a) 256 k = k := fun k => pIn_n (by omega) (by omega)
  have g4 : ∀ {β : Type} (k : Option β), pIn (nI ((a + 1) % 256)) 256 k = k := fun k => pIn_n (by omega) (by omega)
  have q1 : (nI a + 1) &&& 255 = nI ((a + 1) % 256) := by rw [nI_1, and255 (by omega)]
  have q2 : (nI b >>> ((2 : Int32) &&& 31)) &&& 3 = nI d := by rw [pk_shrN (by omega) _ 2 rfl, pk_andN (by omega) 2 rfl, ← hde]
  have q3 : nI b &&& 3 = nI s := by rw [pk_andN (by omega) 2 rfl, ← hse]
  have hd : d < 4 := by omega
  have hs : s < 4 := by omega
  have c1 : (nI d).toNatClampNeg = d := cl_n (by omega)
  have c2 : (nI s).toNatClampNeg = s := cl_n (by omega)
  have g1 : ∀ {β : Type} (k : Option β), pIn (nI d) 10 k = k := fun k => pIn_n (by omega) (by omega)
  have g2 : ∀ {β : Type} (k : Option β), pIn (nI s) 10 k = k := fun k => pIn_n (by omega) (by omega)
  have u1 : ∀ x : Int32, upd reg 9 x d = reg d := fun x => pk_un (by omega)
  have u2 : ∀ x : Int32, upd reg 9 x s = reg s := fun x => pk_un (by omega)
  have u6 : ∀ x : Int32, upd reg 9 x 6 = reg 6 := fun x => pk_un (by omega)
  have u0 : ∀ x : Int32, upd reg 9 x 0 = reg 0 := fun x => pk_un (by omega)
  have u4 : ∀ x : Int32, upd reg 9 x 4 = reg 4 := fun x => pk_un (by omega)
  have u5 : ∀ x : Int32, upd reg 9 x 5 = reg 5 := fun x => pk_un (by omega)
  have u7 : ∀ x : Int32, upd reg 9 x 7 = reg 7 := fun x => pk_un (by omega)
  have k10 : ∀ x : Int32, upd cnt 0 x 10 = cnt 10 := fun x => pk_un (by omega)
  simp only [-Int32.reduceToNatClampNeg, pLet_e, pB_e2, fX5_push_e, fX5_pop_e, fX5_goes_b79_e, fX5_goes_b67_e, fX5_goes_e, fX5_add_e, fX5_shift_b98_e, fX5_shift_b78_e, fX5_shift_b49_e, fX5_shift_b38_e, fX5_shift_b24_e, fX5_shift_b19_e, fX5_shift_e, fX5_stepOn_b200_e, fX5_stepOn_b300_e, fX5_stepOn_e, fX5_step_b218_e, fX5_step_b258_e, fX5_step_b239_e, fX5_step_b307_e, fX5_step_b278_e, fX5_step_b406_e, fX5_step_b361_e, fX5_step_b421_e, fX5_step_e, setFlags_c, gM_memory_t, sM_memory_t, gM_reg_t, sM_reg_t, gM_given_t, sM_given_t, gM_counts_t, sM_counts_t, gM_kind_t, sM_kind_t, gM_bytes_t, sM_bytes_t, gM_isOver_t, sM_isOver_t, j0, j1, j2, j3, j4, j5, j6, j7, j8, j9, j10, j11, j12, p10_0, p10_1, p10_2, p10_3, p10_4, p10_5, p10_6, p10_7, p10_8, p10_9, p12_0, p12_1, p12_2, p12_3, p12_4, p12_5, p12_6, p12_7, p12_8, p12_9, p12_10, p12_11, hl, hr, hm, hn2, c0, c4, g0, g4, q1, q2, q3, c1, c2, g1, g2, u0, u1, u2, u4, u5, u6, u7, k10, if_true, if_false, ne_1_0, ne_20_0, ne_20_1, ne_20_2, ne_20_3, ne_20_4, ne_20_5, ne_20_6, ne_20_7, ne_20_8, ne_20_9, ne_20_10, ne_20_11, ne_20_12, ne_20_13, ne_20_14, ne_20_15, ne_20_16, ne_20_17, ne_20_18, ne_20_19, ne_20_21, ne_20_22, ne_20_23, ne_20_24, ne_20_25, ne_20_26, ne_20_27, ne_20_28, ne_20_29, pk_us]
set_option maxRecDepth 20000 in
theorem sp_21 {mem reg inp rq gvn size len pages which exA exT cnt ks : Nat → Int32} {rf im rm lr room trn kd by_ fm fs fp fd lb ov : Int32} {a b n d s : Nat} (ha : a < 256) (hb : b < 256) (hn : n < 256) (hr : reg 9 = nI a) (hm : mem a = nI b) (hn2 : mem ((a + 1) % 256) = nI n) (hk : kM b = 21) (hB : bytB b = 2) (hde : b / 4 % 4 = d) (hse : b % 4 = s) {ad : Nat} (had : ad < 256) (hae : (reg s + nI n) &&& 255 = nI ad) :
    fX5_step (rf, mem, reg, inp, im, rq, rm, lr, gvn, size, len, pages, which, exA, exT, room, trn, cnt, kd, by_, fm, fs, fp, fd, ks, lb, ov) = some (rf, mem, (upd (upd reg 9 ((nI a + 2) &&& 255)) d (mem ad)), inp, im, rq, rm, lr, gvn, size, len, pages, which, exA, exT, room, trn, (upd cnt 0 (cnt 0 + 1)), 21, 2, fm, fs, fp, fd, ks, lb, ov) := by
  have hl : fX5_look (rf, mem, reg, inp, im, rq, rm, lr, gvn, size, len, pages, which, exA, exT, room, trn, cnt, kd, by_, fm, fs, fp, fd, ks, lb, ov) (nI a) = some (rf, mem, reg, inp, im, rq, rm, lr, gvn, size, len, pages, which, exA, exT, room, trn, cnt, 21, 2, fm, fs, fp, fd, ks, lb, ov) := by
    rw [look_e ha hb (show gM_memory (rf, mem, reg, inp, im, rq, rm, lr, gvn, size, len, pages, which, exA, exT, room, trn, cnt, kd, by_, fm, fs, fp, fd, ks, lb, ov) a = nI b from hm), hk, hB]
    rfl
  have c0 : (nI a).toNatClampNeg = a := cl_n (by omega)
  have c4 : (nI ((a + 1) % 256)).toNatClampNeg = (a + 1) % 256 := cl_n (by omega)
  have g0 : ∀ {β : Type} (k : Option β), pIn (nI a) 256 k = k := fun k => pIn_n (by omega) (by omega)
  have g4 : ∀ {β : Type} (k : Option β), pIn (nI ((a + 1) % 256)) 256 k = k := fun k => pIn_n (by omega) (by omega)
  have q1 : (nI a + 1) &&& 255 = nI ((a + 1) % 256) := by rw [nI_1, and255 (by omega)]
  have q2 : (nI b >>> ((2 : Int32) &&& 31)) &&& 3 = nI d := by rw [pk_shrN (by omega) _ 2 rfl, pk_andN (by omega) 2 rfl, ← hde]
  have q3 : nI b &&& 3 = nI s := by rw [pk_andN (by omega) 2 rfl, ← hse]
  have hd : d < 4 := by omega
  have hs : s < 4 := by omega
  have c1 : (nI d).toNatClampNeg = d := cl_n (by omega)
  have c2 : (nI s).toNatClampNeg = s := cl_n (by omega)
  have g1 : ∀ {β : Type} (k : Option β), pIn (nI d) 10 k = k := fun k => pIn_n (by omega) (by omega)
  have g2 : ∀ {β : Type} (k : Option β), pIn (nI s) 10 k = k := fun k => pIn_n (by omega) (by omega)
  have u1 : ∀ x : Int32, upd reg 9 x d = reg d := fun x => pk_un (by omega)
  have u2 : ∀ x : Int32, upd reg 9 x s = reg s := fun x => pk_un (by omega)
  have u6 : ∀ x : Int32, upd reg 9 x 6 = reg 6 := fun x => pk_un (by omega)
  have u0 : ∀ x : Int32, upd reg 9 x 0 = reg 0 := fun x => pk_un (by omega)
  have u4 : ∀ x : Int32, upd reg 9 x 4 = reg 4 := fun x => pk_un (by omega)
  have u5 : ∀ x : Int32, upd reg 9 x 5 = reg 5 := fun x => pk_un (by omega)
  have u7 : ∀ x : Int32, upd reg 9 x 7 = reg 7 := fun x => pk_un (by omega)
  have k10 : ∀ x : Int32, upd cnt 0 x 10 = cnt 10 := fun x => pk_un (by omega)
  have g3 : ∀ {β : Type} (k : Option β), pIn (nI ad) 256 k = k := fun k => pIn_n (by omega) (by omega)
  have c3 : (nI ad).toNatClampNeg = ad := cl_n (by omega)
  simp only [-Int32.reduceToNatClampNeg, pLet_e, pB_e2, fX5_push_e, fX5_pop_e, fX5_goes_b79_e, fX5_goes_b67_e, fX5_goes_e, fX5_add_e, fX5_shift_b98_e, fX5_shift_b78_e, fX5_shift_b49_e, fX5_shift_b38_e, fX5_shift_b24_e, fX5_shift_b19_e, fX5_shift_e, fX5_stepOn_b200_e, fX5_stepOn_b300_e, fX5_stepOn_e, fX5_step_b218_e, fX5_step_b258_e, fX5_step_b239_e, fX5_step_b307_e, fX5_step_b278_e, fX5_step_b406_e, fX5_step_b361_e, fX5_step_b421_e, fX5_step_e, setFlags_c, gM_memory_t, sM_memory_t, gM_reg_t, sM_reg_t, gM_given_t, sM_given_t, gM_counts_t, sM_counts_t, gM_kind_t, sM_kind_t, gM_bytes_t, sM_bytes_t, gM_isOver_t, sM_isOver_t, j0, j1, j2, j3, j4, j5, j6, j7, j8, j9, j10, j11, j12, p10_0, p10_1, p10_2, p10_3, p10_4, p10_5, p10_6, p10_7, p10_8, p10_9, p12_0, p12_1, p12_2, p12_3, p12_4, p12_5, p12_6, p12_7, p12_8, p12_9, p12_10, p12_11, hl, hr, hm, hn2, c0, c4, g0, g4, q1, q2, q3, c1, c2, g1, g2, u0, u1, u2, u4, u5, u6, u7, k10, if_true, if_false, ne_1_0, ne_21_0, ne_21_1, ne_21_2, ne_21_3, ne_21_4, ne_21_5, ne_21_6, ne_21_7, ne_21_8, ne_21_9, ne_21_10, ne_21_11, ne_21_12, ne_21_13, ne_21_14, ne_21_15, ne_21_16, ne_21_17, ne_21_18, ne_21_19, ne_21_20, ne_21_22, ne_21_23, ne_21_24, ne_21_25, ne_21_26, ne_21_27, ne_21_28, ne_21_29, hae, g3, c3]
set_option maxRecDepth 20000 in
theorem sp_22 {mem reg inp rq gvn size len pages which exA exT cnt ks : Nat → Int32} {rf im rm lr room trn kd by_ fm fs fp fd lb ov : Int32} {a b n d s : Nat} (ha : a < 256) (hb : b < 256) (hn : n < 256) (hr : reg 9 = nI a) (hm : mem a = nI b) (hn2 : mem ((a + 1) % 256) = nI n) (hk : kM b = 22) (hB : bytB b = 2) (hde : b / 4 % 4 = d) (hse : b % 4 = s) {ad : Nat} (had : ad < 256) (hae : (reg s + nI n) &&& 255 = nI ad) {mem' size' cnt' : Nat → Int32} (hw : fX5_write (rf, mem, (upd reg 9 ((nI a + 2) &&& 255)), inp, im, rq, rm, lr, gvn, size, len, pages, which, exA, exT, room, trn, (upd cnt 0 (cnt 0 + 1)), 22, 2, fm, fs, fp, fd, ks, lb, ov) (nI ad) (reg d) = some (rf, mem', (upd reg 9 ((nI a + 2) &&& 255)), inp, im, rq, rm, lr, gvn, size', len, pages, which, exA, exT, room, trn, cnt', 22, 2, fm, fs, fp, fd, ks, lb, ov)) :
    fX5_step (rf, mem, reg, inp, im, rq, rm, lr, gvn, size, len, pages, which, exA, exT, room, trn, cnt, kd, by_, fm, fs, fp, fd, ks, lb, ov) = some (rf, mem', (upd reg 9 ((nI a + 2) &&& 255)), inp, im, rq, rm, lr, gvn, size', len, pages, which, exA, exT, room, trn, cnt', 22, 2, fm, fs, fp, fd, ks, lb, ov) := by
  have hl : fX5_look (rf, mem, reg, inp, im, rq, rm, lr, gvn, size, len, pages, which, exA, exT, room, trn, cnt, kd, by_, fm, fs, fp, fd, ks, lb, ov) (nI a) = some (rf, mem, reg, inp, im, rq, rm, lr, gvn, size, len, pages, which, exA, exT, room, trn, cnt, 22, 2, fm, fs, fp, fd, ks, lb, ov) := by
    rw [look_e ha hb (show gM_memory (rf, mem, reg, inp, im, rq, rm, lr, gvn, size, len, pages, which, exA, exT, room, trn, cnt, kd, by_, fm, fs, fp, fd, ks, lb, ov) a = nI b from hm), hk, hB]
    rfl
  have c0 : (nI a).toNatClampNeg = a := cl_n (by omega)
  have c4 : (nI ((a + 1) % 256)).toNatClampNeg = (a + 1) % 256 := cl_n (by omega)
  have g0 : ∀ {β : Type} (k : Option β), pIn (nI a) 256 k = k := fun k => pIn_n (by omega) (by omega)
  have g4 : ∀ {β : Type} (k : Option β), pIn (nI ((a + 1) % 256)) 256 k = k := fun k => pIn_n (by omega) (by omega)
  have q1 : (nI a + 1) &&& 255 = nI ((a + 1) % 256) := by rw [nI_1, and255 (by omega)]
  have q2 : (nI b >>> ((2 : Int32) &&& 31)) &&& 3 = nI d := by rw [pk_shrN (by omega) _ 2 rfl, pk_andN (by omega) 2 rfl, ← hde]
  have q3 : nI b &&& 3 = nI s := by rw [pk_andN (by omega) 2 rfl, ← hse]
  have hd : d < 4 := by omega
  have hs : s < 4 := by omega
  have c1 : (nI d).toNatClampNeg = d := cl_n (by omega)
  have c2 : (nI s).toNatClampNeg = s := cl_n (by omega)
  have g1 : ∀ {β : Type} (k : Option β), pIn (nI d) 10 k = k := fun k => pIn_n (by omega) (by omega)
  have g2 : ∀ {β : Type} (k : Option β), pIn (nI s) 10 k = k := fun k => pIn_n (by omega) (by omega)
  have u1 : ∀ x : Int32, upd reg 9 x d = reg d := fun x => pk_un (by omega)
  have u2 : ∀ x : Int32, upd reg 9 x s = reg s := fun x => pk_un (by omega)
  have u6 : ∀ x : Int32, upd reg 9 x 6 = reg 6 := fun x => pk_un (by omega)
  have u0 : ∀ x : Int32, upd reg 9 x 0 = reg 0 := fun x => pk_un (by omega)
  have u4 : ∀ x : Int32, upd reg 9 x 4 = reg 4 := fun x => pk_un (by omega)
  have u5 : ∀ x : Int32, upd reg 9 x 5 = reg 5 := fun x => pk_un (by omega)
  have u7 : ∀ x : Int32, upd reg 9 x 7 = reg 7 := fun x => pk_un (by omega)
  have k10 : ∀ x : Int32, upd cnt 0 x 10 = cnt 10 := fun x => pk_un (by omega)
  have g3 : ∀ {β : Type} (k : Option β), pIn (nI ad) 256 k = k := fun k => pIn_n (by omega) (by omega)
  have c3 : (nI ad).toNatClampNeg = ad := cl_n (by omega)
  simp only [-Int32.reduceToNatClampNeg, pLet_e, pB_e2, fX5_push_e, fX5_pop_e, fX5_goes_b79_e, fX5_goes_b67_e, fX5_goes_e, fX5_add_e, fX5_shift_b98_e, fX5_shift_b78_e, fX5_shift_b49_e, fX5_shift_b38_e, fX5_shift_b24_e, fX5_shift_b19_e, fX5_shift_e, fX5_stepOn_b200_e, fX5_stepOn_b300_e, fX5_stepOn_e, fX5_step_b218_e, fX5_step_b258_e, fX5_step_b239_e, fX5_step_b307_e, fX5_step_b278_e, fX5_step_b406_e, fX5_step_b361_e, fX5_step_b421_e, fX5_step_e, setFlags_c, gM_memory_t, sM_memory_t, gM_reg_t, sM_reg_t, gM_given_t, sM_given_t, gM_counts_t, sM_counts_t, gM_kind_t, sM_kind_t, gM_bytes_t, sM_bytes_t, gM_isOver_t, sM_isOver_t, j0, j1, j2, j3, j4, j5, j6, j7, j8, j9, j10, j11, j12, p10_0, p10_1, p10_2, p10_3, p10_4, p10_5, p10_6, p10_7, p10_8, p10_9, p12_0, p12_1, p12_2, p12_3, p12_4, p12_5, p12_6, p12_7, p12_8, p12_9, p12_10, p12_11, hl, hr, hm, hn2, c0, c4, g0, g4, q1, q2, q3, c1, c2, g1, g2, u0, u1, u2, u4, u5, u6, u7, k10, if_true, if_false, ne_1_0, ne_22_0, ne_22_1, ne_22_2, ne_22_3, ne_22_4, ne_22_5, ne_22_6, ne_22_7, ne_22_8, ne_22_9, ne_22_10, ne_22_11, ne_22_12, ne_22_13, ne_22_14, ne_22_15, ne_22_16, ne_22_17, ne_22_18, ne_22_19, ne_22_20, ne_22_21, ne_22_23, ne_22_24, ne_22_25, ne_22_26, ne_22_27, ne_22_28, ne_22_29, hae, hw]
set_option maxRecDepth 20000 in
theorem sp_23_0 {mem reg inp rq gvn size len pages which exA exT cnt ks : Nat → Int32} {rf im rm lr room trn kd by_ fm fs fp fd lb ov : Int32} {a b n d s : Nat} (ha : a < 256) (hb : b < 256) (hn : n < 256) (hr : reg 9 = nI a) (hm : mem a = nI b) (hn2 : mem ((a + 1) % 256) = nI n) (hk : kM b = 23) (hB : bytB b = 2) (hde : b / 4 % 4 = d) (hse : b % 4 = s) (hw0 : b % 16 = 0) :
    fX5_step (rf, mem, reg, inp, im, rq, rm, lr, gvn, size, len, pages, which, exA, exT, room, trn, cnt, kd, by_, fm, fs, fp, fd, ks, lb, ov) = some (rf, mem, (upd (upd reg 9 ((nI a + 2) &&& 255)) 9 (nI n)), inp, im, rq, rm, lr, gvn, size, len, pages, which, exA, exT, room, trn, (upd cnt 0 (cnt 0 + 1)), 23, 2, fm, fs, fp, fd, ks, lb, ov) := by
  have hl : fX5_look (rf, mem, reg, inp, im, rq, rm, lr, gvn, size, len, pages, which, exA, exT, room, trn, cnt, kd, by_, fm, fs, fp, fd, ks, lb, ov) (nI a) = some (rf, mem, reg, inp, im, rq, rm, lr, gvn, size, len, pages, which, exA, exT, room, trn, cnt, 23, 2, fm, fs, fp, fd, ks, lb, ov) := by
    rw [look_e ha hb (show gM_memory (rf, mem, reg, inp, im, rq, rm, lr, gvn, size, len, pages, which, exA, exT, room, trn, cnt, kd, by_, fm, fs, fp, fd, ks, lb, ov) a = nI b from hm), hk, hB]
    rfl
  have c0 : (nI a).toNatClampNeg = a := cl_n (by omega)
  have c4 : (nI ((a + 1) % 256)).toNatClampNeg = (a + 1) % 256 := cl_n (by omega)
  have g0 : ∀ {β : Type} (k : Option β), pIn (nI a) 256 k = k := fun k => pIn_n (by omega) (by omega)
  have g4 : ∀ {β : Type} (k : Option β), pIn (nI ((a + 1) % 256)) 256 k = k := fun k => pIn_n (by omega) (by omega)
  have q1 : (nI a + 1) &&& 255 = nI ((a + 1) % 256) := by rw [nI_1, and255 (by omega)]
  have q2 : (nI b >>> ((2 : Int32) &&& 31)) &&& 3 = nI d := by rw [pk_shrN (by omega) _ 2 rfl, pk_andN (by omega) 2 rfl, ← hde]
  have q3 : nI b &&& 3 = nI s := by rw [pk_andN (by omega) 2 rfl, ← hse]
  have hd : d < 4 := by omega
  have hs : s < 4 := by omega
  have c1 : (nI d).toNatClampNeg = d := cl_n (by omega)
  have c2 : (nI s).toNatClampNeg = s := cl_n (by omega)
  have g1 : ∀ {β : Type} (k : Option β), pIn (nI d) 10 k = k := fun k => pIn_n (by omega) (by omega)
  have g2 : ∀ {β : Type} (k : Option β), pIn (nI s) 10 k = k := fun k => pIn_n (by omega) (by omega)
  have u1 : ∀ x : Int32, upd reg 9 x d = reg d := fun x => pk_un (by omega)
  have u2 : ∀ x : Int32, upd reg 9 x s = reg s := fun x => pk_un (by omega)
  have u6 : ∀ x : Int32, upd reg 9 x 6 = reg 6 := fun x => pk_un (by omega)
  have u0 : ∀ x : Int32, upd reg 9 x 0 = reg 0 := fun x => pk_un (by omega)
  have u4 : ∀ x : Int32, upd reg 9 x 4 = reg 4 := fun x => pk_un (by omega)
  have u5 : ∀ x : Int32, upd reg 9 x 5 = reg 5 := fun x => pk_un (by omega)
  have u7 : ∀ x : Int32, upd reg 9 x 7 = reg 7 := fun x => pk_un (by omega)
  have k10 : ∀ x : Int32, upd cnt 0 x 10 = cnt 10 := fun x => pk_un (by omega)
  have r1 : nI b &&& 15 = 0 := by rw [and15 (by omega), hw0]; rfl
  simp only [-Int32.reduceToNatClampNeg, pLet_e, pB_e2, fX5_push_e, fX5_pop_e, fX5_goes_b79_e, fX5_goes_b67_e, fX5_goes_e, fX5_add_e, fX5_shift_b98_e, fX5_shift_b78_e, fX5_shift_b49_e, fX5_shift_b38_e, fX5_shift_b24_e, fX5_shift_b19_e, fX5_shift_e, fX5_stepOn_b200_e, fX5_stepOn_b300_e, fX5_stepOn_e, fX5_step_b218_e, fX5_step_b258_e, fX5_step_b239_e, fX5_step_b307_e, fX5_step_b278_e, fX5_step_b406_e, fX5_step_b361_e, fX5_step_b421_e, fX5_step_e, setFlags_c, gM_memory_t, sM_memory_t, gM_reg_t, sM_reg_t, gM_given_t, sM_given_t, gM_counts_t, sM_counts_t, gM_kind_t, sM_kind_t, gM_bytes_t, sM_bytes_t, gM_isOver_t, sM_isOver_t, j0, j1, j2, j3, j4, j5, j6, j7, j8, j9, j10, j11, j12, p10_0, p10_1, p10_2, p10_3, p10_4, p10_5, p10_6, p10_7, p10_8, p10_9, p12_0, p12_1, p12_2, p12_3, p12_4, p12_5, p12_6, p12_7, p12_8, p12_9, p12_10, p12_11, hl, hr, hm, hn2, c0, c4, g0, g4, q1, q2, q3, c1, c2, g1, g2, u0, u1, u2, u4, u5, u6, u7, k10, if_true, if_false, ne_1_0, ne_23_0, ne_23_1, ne_23_2, ne_23_3, ne_23_4, ne_23_5, ne_23_6, ne_23_7, ne_23_8, ne_23_9, ne_23_10, ne_23_11, ne_23_12, ne_23_13, ne_23_14, ne_23_15, ne_23_16, ne_23_17, ne_23_18, ne_23_19, ne_23_20, ne_23_21, ne_23_22, ne_23_24, ne_23_25, ne_23_26, ne_23_27, ne_23_28, ne_23_29, r1]
set_option maxRecDepth 20000 in
theorem sp_23_1t {mem reg inp rq gvn size len pages which exA exT cnt ks : Nat → Int32} {rf im rm lr room trn kd by_ fm fs fp fd lb ov : Int32} {a b n d s : Nat} (ha : a < 256) (hb : b < 256) (hn : n < 256) (hr : reg 9 = nI a) (hm : mem a = nI b) (hn2 : mem ((a + 1) % 256) = nI n) (hk : kM b = 23) (hB : bytB b = 2) (hde : b / 4 % 4 = d) (hse : b % 4 = s) (hw0 : b % 16 = 1) (hfl : reg 5 = 1) :
    fX5_step (rf, mem, reg, inp, im, rq, rm, lr, gvn, size, len, pages, which, exA, exT, room, trn, cnt, kd, by_, fm, fs, fp, fd, ks, lb, ov) = some (rf, mem, (upd (upd reg 9 ((nI a + 2) &&& 255)) 9 (nI n)), inp, im, rq, rm, lr, gvn, size, len, pages, which, exA, exT, room, trn, (upd cnt 0 (cnt 0 + 1)), 23, 2, fm, fs, fp, fd, ks, lb, ov) := by
  have hl : fX5_look (rf, mem, reg, inp, im, rq, rm, lr, gvn, size, len, pages, which, exA, exT, room, trn, cnt, kd, by_, fm, fs, fp, fd, ks, lb, ov) (nI a) = some (rf, mem, reg, inp, im, rq, rm, lr, gvn, size, len, pages, which, exA, exT, room, trn, cnt, 23, 2, fm, fs, fp, fd, ks, lb, ov) := by
    rw [look_e ha hb (show gM_memory (rf, mem, reg, inp, im, rq, rm, lr, gvn, size, len, pages, which, exA, exT, room, trn, cnt, kd, by_, fm, fs, fp, fd, ks, lb, ov) a = nI b from hm), hk, hB]
    rfl
  have c0 : (nI a).toNatClampNeg = a := cl_n (by omega)
  have c4 : (nI ((a + 1) % 256)).toNatClampNeg = (a + 1) % 256 := cl_n (by omega)
  have g0 : ∀ {β : Type} (k : Option β), pIn (nI a) 256 k = k := fun k => pIn_n (by omega) (by omega)
  have g4 : ∀ {β : Type} (k : Option β), pIn (nI ((a + 1) % 256)) 256 k = k := fun k => pIn_n (by omega) (by omega)
  have q1 : (nI a + 1) &&& 255 = nI ((a + 1) % 256) := by rw [nI_1, and255 (by omega)]
  have q2 : (nI b >>> ((2 : Int32) &&& 31)) &&& 3 = nI d := by rw [pk_shrN (by omega) _ 2 rfl, pk_andN (by omega) 2 rfl, ← hde]
  have q3 : nI b &&& 3 = nI s := by rw [pk_andN (by omega) 2 rfl, ← hse]
  have hd : d < 4 := by omega
  have hs : s < 4 := by omega
  have c1 : (nI d).toNatClampNeg = d := cl_n (by omega)
  have c2 : (nI s).toNatClampNeg = s := cl_n (by omega)
  have g1 : ∀ {β : Type} (k : Option β), pIn (nI d) 10 k = k := fun k => pIn_n (by omega) (by omega)
  have g2 : ∀ {β : Type} (k : Option β), pIn (nI s) 10 k = k := fun k => pIn_n (by omega) (by omega)
  have u1 : ∀ x : Int32, upd reg 9 x d = reg d := fun x => pk_un (by omega)
  have u2 : ∀ x : Int32, upd reg 9 x s = reg s := fun x => pk_un (by omega)
  have u6 : ∀ x : Int32, upd reg 9 x 6 = reg 6 := fun x => pk_un (by omega)
  have u0 : ∀ x : Int32, upd reg 9 x 0 = reg 0 := fun x => pk_un (by omega)
  have u4 : ∀ x : Int32, upd reg 9 x 4 = reg 4 := fun x => pk_un (by omega)
  have u5 : ∀ x : Int32, upd reg 9 x 5 = reg 5 := fun x => pk_un (by omega)
  have u7 : ∀ x : Int32, upd reg 9 x 7 = reg 7 := fun x => pk_un (by omega)
  have k10 : ∀ x : Int32, upd cnt 0 x 10 = cnt 10 := fun x => pk_un (by omega)
  have r1 : nI b &&& 15 = 1 := by rw [and15 (by omega), hw0]; rfl
  have r3 : (1 : Int32) < 3 := by decide
  have r4 : (1 : Int32) < 5 := by decide
  have r5 : (1 : Int32) - 1 / 2 * 2 = 1 := by decide
  have r6 : ¬ (3 : Int32) ≤ 1 := by decide
  have r7 : ¬ (5 : Int32) ≤ 1 := by decide
  have r8 : ¬ (0 : Int32) = 1 := by decide
  simp only [-Int32.reduceToNatClampNeg, pLet_e, pB_e2, fX5_push_e, fX5_pop_e, fX5_goes_b79_e, fX5_goes_b67_e, fX5_goes_e, fX5_add_e, fX5_shift_b98_e, fX5_shift_b78_e, fX5_shift_b49_e, fX5_shift_b38_e, fX5_shift_b24_e, fX5_shift_b19_e, fX5_shift_e, fX5_stepOn_b200_e, fX5_stepOn_b300_e, fX5_stepOn_e, fX5_step_b218_e, fX5_step_b258_e, fX5_step_b239_e, fX5_step_b307_e, fX5_step_b278_e, fX5_step_b406_e, fX5_step_b361_e, fX5_step_b421_e, fX5_step_e, setFlags_c, gM_memory_t, sM_memory_t, gM_reg_t, sM_reg_t, gM_given_t, sM_given_t, gM_counts_t, sM_counts_t, gM_kind_t, sM_kind_t, gM_bytes_t, sM_bytes_t, gM_isOver_t, sM_isOver_t, j0, j1, j2, j3, j4, j5, j6, j7, j8, j9, j10, j11, j12, p10_0, p10_1, p10_2, p10_3, p10_4, p10_5, p10_6, p10_7, p10_8, p10_9, p12_0, p12_1, p12_2, p12_3, p12_4, p12_5, p12_6, p12_7, p12_8, p12_9, p12_10, p12_11, hl, hr, hm, hn2, c0, c4, g0, g4, q1, q2, q3, c1, c2, g1, g2, u0, u1, u2, u4, u5, u6, u7, k10, if_true, if_false, ne_1_0, ne_23_0, ne_23_1, ne_23_2, ne_23_3, ne_23_4, ne_23_5, ne_23_6, ne_23_7, ne_23_8, ne_23_9, ne_23_10, ne_23_11, ne_23_12, ne_23_13, ne_23_14, ne_23_15, ne_23_16, ne_23_17, ne_23_18, ne_23_19, ne_23_20, ne_23_21, ne_23_22, ne_23_24, ne_23_25, ne_23_26, ne_23_27, ne_23_28, ne_23_29, r1, r3, r4, r5, r6, r7, r8, hfl, ne_1_0, ne_0_1]
set_option maxRecDepth 20000 in
theorem sp_23_1f {mem reg inp rq gvn size len pages which exA exT cnt ks : Nat → Int32} {rf im rm lr room trn kd by_ fm fs fp fd lb ov : Int32} {a b n d s : Nat} (ha : a < 256) (hb : b < 256) (hn : n < 256) (hr : reg 9 = nI a) (hm : mem a = nI b) (hn2 : mem ((a + 1) % 256) = nI n) (hk : kM b = 23) (hB : bytB b = 2) (hde : b / 4 % 4 = d) (hse : b % 4 = s) (hw0 : b % 16 = 1) (hfl : ¬ reg 5 = 1) :
    fX5_step (rf, mem, reg, inp, im, rq, rm, lr, gvn, size, len, pages, which, exA, exT, room, trn, cnt, kd, by_, fm, fs, fp, fd, ks, lb, ov) = some (rf, mem, (upd (upd reg 9 ((nI a + 2) &&& 255)) 9 ((nI a + 2) &&& 255)), inp, im, rq, rm, lr, gvn, size, len, pages, which, exA, exT, room, trn, (upd cnt 0 (cnt 0 + 1)), 23, 2, fm, fs, fp, fd, ks, lb, ov) := by
  have hl : fX5_look (rf, mem, reg, inp, im, rq, rm, lr, gvn, size, len, pages, which, exA, exT, room, trn, cnt, kd, by_, fm, fs, fp, fd, ks, lb, ov) (nI a) = some (rf, mem, reg, inp, im, rq, rm, lr, gvn, size, len, pages, which, exA, exT, room, trn, cnt, 23, 2, fm, fs, fp, fd, ks, lb, ov) := by
    rw [look_e ha hb (show gM_memory (rf, mem, reg, inp, im, rq, rm, lr, gvn, size, len, pages, which, exA, exT, room, trn, cnt, kd, by_, fm, fs, fp, fd, ks, lb, ov) a = nI b from hm), hk, hB]
    rfl
  have c0 : (nI a).toNatClampNeg = a := cl_n (by omega)
  have c4 : (nI ((a + 1) % 256)).toNatClampNeg = (a + 1) % 256 := cl_n (by omega)
  have g0 : ∀ {β : Type} (k : Option β), pIn (nI a) 256 k = k := fun k => pIn_n (by omega) (by omega)
  have g4 : ∀ {β : Type} (k : Option β), pIn (nI ((a + 1) % 256)) 256 k = k := fun k => pIn_n (by omega) (by omega)
  have q1 : (nI a + 1) &&& 255 = nI ((a + 1) % 256) := by rw [nI_1, and255 (by omega)]
  have q2 : (nI b >>> ((2 : Int32) &&& 31)) &&& 3 = nI d := by rw [pk_shrN (by omega) _ 2 rfl, pk_andN (by omega) 2 rfl, ← hde]
  have q3 : nI b &&& 3 = nI s := by rw [pk_andN (by omega) 2 rfl, ← hse]
  have hd : d < 4 := by omega
  have hs : s < 4 := by omega
  have c1 : (nI d).toNatClampNeg = d := cl_n (by omega)
  have c2 : (nI s).toNatClampNeg = s := cl_n (by omega)
  have g1 : ∀ {β : Type} (k : Option β), pIn (nI d) 10 k = k := fun k => pIn_n (by omega) (by omega)
  have g2 : ∀ {β : Type} (k : Option β), pIn (nI s) 10 k = k := fun k => pIn_n (by omega) (by omega)
  have u1 : ∀ x : Int32, upd reg 9 x d = reg d := fun x => pk_un (by omega)
  have u2 : ∀ x : Int32, upd reg 9 x s = reg s := fun x => pk_un (by omega)
  have u6 : ∀ x : Int32, upd reg 9 x 6 = reg 6 := fun x => pk_un (by omega)
  have u0 : ∀ x : Int32, upd reg 9 x 0 = reg 0 := fun x => pk_un (by omega)
  have u4 : ∀ x : Int32, upd reg 9 x 4 = reg 4 := fun x => pk_un (by omega)
  have u5 : ∀ x : Int32, upd reg 9 x 5 = reg 5 := fun x => pk_un (by omega)
  have u7 : ∀ x : Int32, upd reg 9 x 7 = reg 7 := fun x => pk_un (by omega)
  have k10 : ∀ x : Int32, upd cnt 0 x 10 = cnt 10 := fun x => pk_un (by omega)
  have r1 : nI b &&& 15 = 1 := by rw [and15 (by omega), hw0]; rfl
  have r3 : (1 : Int32) < 3 := by decide
  have r4 : (1 : Int32) < 5 := by decide
  have r5 : (1 : Int32) - 1 / 2 * 2 = 1 := by decide
  have r6 : ¬ (3 : Int32) ≤ 1 := by decide
  have r7 : ¬ (5 : Int32) ≤ 1 := by decide
  have r8 : ¬ (0 : Int32) = 1 := by decide
  simp only [-Int32.reduceToNatClampNeg, pLet_e, pB_e2, fX5_push_e, fX5_pop_e, fX5_goes_b79_e, fX5_goes_b67_e, fX5_goes_e, fX5_add_e, fX5_shift_b98_e, fX5_shift_b78_e, fX5_shift_b49_e, fX5_shift_b38_e, fX5_shift_b24_e, fX5_shift_b19_e, fX5_shift_e, fX5_stepOn_b200_e, fX5_stepOn_b300_e, fX5_stepOn_e, fX5_step_b218_e, fX5_step_b258_e, fX5_step_b239_e, fX5_step_b307_e, fX5_step_b278_e, fX5_step_b406_e, fX5_step_b361_e, fX5_step_b421_e, fX5_step_e, setFlags_c, gM_memory_t, sM_memory_t, gM_reg_t, sM_reg_t, gM_given_t, sM_given_t, gM_counts_t, sM_counts_t, gM_kind_t, sM_kind_t, gM_bytes_t, sM_bytes_t, gM_isOver_t, sM_isOver_t, j0, j1, j2, j3, j4, j5, j6, j7, j8, j9, j10, j11, j12, p10_0, p10_1, p10_2, p10_3, p10_4, p10_5, p10_6, p10_7, p10_8, p10_9, p12_0, p12_1, p12_2, p12_3, p12_4, p12_5, p12_6, p12_7, p12_8, p12_9, p12_10, p12_11, hl, hr, hm, hn2, c0, c4, g0, g4, q1, q2, q3, c1, c2, g1, g2, u0, u1, u2, u4, u5, u6, u7, k10, if_true, if_false, ne_1_0, ne_23_0, ne_23_1, ne_23_2, ne_23_3, ne_23_4, ne_23_5, ne_23_6, ne_23_7, ne_23_8, ne_23_9, ne_23_10, ne_23_11, ne_23_12, ne_23_13, ne_23_14, ne_23_15, ne_23_16, ne_23_17, ne_23_18, ne_23_19, ne_23_20, ne_23_21, ne_23_22, ne_23_24, ne_23_25, ne_23_26, ne_23_27, ne_23_28, ne_23_29, r1, r3, r4, r5, r6, r7, r8, hfl, ne_1_0, ne_0_1]
set_option maxRecDepth 20000 in
theorem sp_23_2t {mem reg inp rq gvn size len pages which exA exT cnt ks : Nat → Int32} {rf im rm lr room trn kd by_ fm fs fp fd lb ov : Int32} {a b n d s : Nat} (ha : a < 256) (hb : b < 256) (hn : n < 256) (hr : reg 9 = nI a) (hm : mem a = nI b) (hn2 : mem ((a + 1) % 256) = nI n) (hk : kM b = 23) (hB : bytB b = 2) (hde : b / 4 % 4 = d) (hse : b % 4 = s) (hw0 : b % 16 = 2) (hfl : ¬ reg 5 = 1) :
    fX5_step (rf, mem, reg, inp, im, rq, rm, lr, gvn, size, len, pages, which, exA, exT, room, trn, cnt, kd, by_, fm, fs, fp, fd, ks, lb, ov) = some (rf, mem, (upd (upd reg 9 ((nI a + 2) &&& 255)) 9 (nI n)), inp, im, rq, rm, lr, gvn, size, len, pages, which, exA, exT, room, trn, (upd cnt 0 (cnt 0 + 1)), 23, 2, fm, fs, fp, fd, ks, lb, ov) := by
  have hl : fX5_look (rf, mem, reg, inp, im, rq, rm, lr, gvn, size, len, pages, which, exA, exT, room, trn, cnt, kd, by_, fm, fs, fp, fd, ks, lb, ov) (nI a) = some (rf, mem, reg, inp, im, rq, rm, lr, gvn, size, len, pages, which, exA, exT, room, trn, cnt, 23, 2, fm, fs, fp, fd, ks, lb, ov) := by
    rw [look_e ha hb (show gM_memory (rf, mem, reg, inp, im, rq, rm, lr, gvn, size, len, pages, which, exA, exT, room, trn, cnt, kd, by_, fm, fs, fp, fd, ks, lb, ov) a = nI b from hm), hk, hB]
    rfl
  have c0 : (nI a).toNatClampNeg = a := cl_n (by omega)
  have c4 : (nI ((a + 1) % 256)).toNatClampNeg = (a + 1) % 256 := cl_n (by omega)
  have g0 : ∀ {β : Type} (k : Option β), pIn (nI a) 256 k = k := fun k => pIn_n (by omega) (by omega)
  have g4 : ∀ {β : Type} (k : Option β), pIn (nI ((a + 1) % 256)) 256 k = k := fun k => pIn_n (by omega) (by omega)
  have q1 : (nI a + 1) &&& 255 = nI ((a + 1) % 256) := by rw [nI_1, and255 (by omega)]
  have q2 : (nI b >>> ((2 : Int32) &&& 31)) &&& 3 = nI d := by rw [pk_shrN (by omega) _ 2 rfl, pk_andN (by omega) 2 rfl, ← hde]
  have q3 : nI b &&& 3 = nI s := by rw [pk_andN (by omega) 2 rfl, ← hse]
  have hd : d < 4 := by omega
  have hs : s < 4 := by omega
  have c1 : (nI d).toNatClampNeg = d := cl_n (by omega)
  have c2 : (nI s).toNatClampNeg = s := cl_n (by omega)
  have g1 : ∀ {β : Type} (k : Option β), pIn (nI d) 10 k = k := fun k => pIn_n (by omega) (by omega)
  have g2 : ∀ {β : Type} (k : Option β), pIn (nI s) 10 k = k := fun k => pIn_n (by omega) (by omega)
  have u1 : ∀ x : Int32, upd reg 9 x d = reg d := fun x => pk_un (by omega)
  have u2 : ∀ x : Int32, upd reg 9 x s = reg s := fun x => pk_un (by omega)
  have u6 : ∀ x : Int32, upd reg 9 x 6 = reg 6 := fun x => pk_un (by omega)
  have u0 : ∀ x : Int32, upd reg 9 x 0 = reg 0 := fun x => pk_un (by omega)
  have u4 : ∀ x : Int32, upd reg 9 x 4 = reg 4 := fun x => pk_un (by omega)
  have u5 : ∀ x : Int32, upd reg 9 x 5 = reg 5 := fun x => pk_un (by omega)
  have u7 : ∀ x : Int32, upd reg 9 x 7 = reg 7 := fun x => pk_un (by omega)
  have k10 : ∀ x : Int32, upd cnt 0 x 10 = cnt 10 := fun x => pk_un (by omega)
  have r1 : nI b &&& 15 = 2 := by rw [and15 (by omega), hw0]; rfl
  have r3 : (2 : Int32) < 3 := by decide
  have r4 : (2 : Int32) < 5 := by decide
  have r5 : (2 : Int32) - 2 / 2 * 2 = 0 := by decide
  have r6 : ¬ (3 : Int32) ≤ 2 := by decide
  have r7 : ¬ (5 : Int32) ≤ 2 := by decide
  have r8 : ¬ (0 : Int32) = 1 := by decide
  simp only [-Int32.reduceToNatClampNeg, pLet_e, pB_e2, fX5_push_e, fX5_pop_e, fX5_goes_b79_e, fX5_goes_b67_e, fX5_goes_e, fX5_add_e, fX5_shift_b98_e, fX5_shift_b78_e, fX5_shift_b49_e, fX5_shift_b38_e, fX5_shift_b24_e, fX5_shift_b19_e, fX5_shift_e, fX5_stepOn_b200_e, fX5_stepOn_b300_e, fX5_stepOn_e, fX5_step_b218_e, fX5_step_b258_e, fX5_step_b239_e, fX5_step_b307_e, fX5_step_b278_e, fX5_step_b406_e, fX5_step_b361_e, fX5_step_b421_e, fX5_step_e, setFlags_c, gM_memory_t, sM_memory_t, gM_reg_t, sM_reg_t, gM_given_t, sM_given_t, gM_counts_t, sM_counts_t, gM_kind_t, sM_kind_t, gM_bytes_t, sM_bytes_t, gM_isOver_t, sM_isOver_t, j0, j1, j2, j3, j4, j5, j6, j7, j8, j9, j10, j11, j12, p10_0, p10_1, p10_2, p10_3, p10_4, p10_5, p10_6, p10_7, p10_8, p10_9, p12_0, p12_1, p12_2, p12_3, p12_4, p12_5, p12_6, p12_7, p12_8, p12_9, p12_10, p12_11, hl, hr, hm, hn2, c0, c4, g0, g4, q1, q2, q3, c1, c2, g1, g2, u0, u1, u2, u4, u5, u6, u7, k10, if_true, if_false, ne_1_0, ne_23_0, ne_23_1, ne_23_2, ne_23_3, ne_23_4, ne_23_5, ne_23_6, ne_23_7, ne_23_8, ne_23_9, ne_23_10, ne_23_11, ne_23_12, ne_23_13, ne_23_14, ne_23_15, ne_23_16, ne_23_17, ne_23_18, ne_23_19, ne_23_20, ne_23_21, ne_23_22, ne_23_24, ne_23_25, ne_23_26, ne_23_27, ne_23_28, ne_23_29, r1, r3, r4, r5, r6, r7, r8, hfl, ne_2_0, ne_0_1]
set_option maxRecDepth 20000 in
theorem sp_23_2f {mem reg inp rq gvn size len pages which exA exT cnt ks : Nat → Int32} {rf im rm lr room trn kd by_ fm fs fp fd lb ov : Int32} {a b n d s : Nat} (ha : a < 256) (hb : b < 256) (hn : n < 256) (hr : reg 9 = nI a) (hm : mem a = nI b) (hn2 : mem ((a + 1) % 256) = nI n) (hk : kM b = 23) (hB : bytB b = 2) (hde : b / 4 % 4 = d) (hse : b % 4 = s) (hw0 : b % 16 = 2) (hfl : reg 5 = 1) :
    fX5_step (rf, mem, reg, inp, im, rq, rm, lr, gvn, size, len, pages, which, exA, exT, room, trn, cnt, kd, by_, fm, fs, fp, fd, ks, lb, ov) = some (rf, mem, (upd (upd reg 9 ((nI a + 2) &&& 255)) 9 ((nI a + 2) &&& 255)), inp, im, rq, rm, lr, gvn, size, len, pages, which, exA, exT, room, trn, (upd cnt 0 (cnt 0 + 1)), 23, 2, fm, fs, fp, fd, ks, lb, ov) := by
  have hl : fX5_look (rf, mem, reg, inp, im, rq, rm, lr, gvn, size, len, pages, which, exA, exT, room, trn, cnt, kd, by_, fm, fs, fp, fd, ks, lb, ov) (nI a) = some (rf, mem, reg, inp, im, rq, rm, lr, gvn, size, len, pages, which, exA, exT, room, trn, cnt, 23, 2, fm, fs, fp, fd, ks, lb, ov) := by
    rw [look_e ha hb (show gM_memory (rf, mem, reg, inp, im, rq, rm, lr, gvn, size, len, pages, which, exA, exT, room, trn, cnt, kd, by_, fm, fs, fp, fd, ks, lb, ov) a = nI b from hm), hk, hB]
    rfl
  have c0 : (nI a).toNatClampNeg = a := cl_n (by omega)
  have c4 : (nI ((a + 1) % 256)).toNatClampNeg = (a + 1) % 256 := cl_n (by omega)
  have g0 : ∀ {β : Type} (k : Option β), pIn (nI a) 256 k = k := fun k => pIn_n (by omega) (by omega)
  have g4 : ∀ {β : Type} (k : Option β), pIn (nI ((a + 1) % 256)) 256 k = k := fun k => pIn_n (by omega) (by omega)
  have q1 : (nI a + 1) &&& 255 = nI ((a + 1) % 256) := by rw [nI_1, and255 (by omega)]
  have q2 : (nI b >>> ((2 : Int32) &&& 31)) &&& 3 = nI d := by rw [pk_shrN (by omega) _ 2 rfl, pk_andN (by omega) 2 rfl, ← hde]
  have q3 : nI b &&& 3 = nI s := by rw [pk_andN (by omega) 2 rfl, ← hse]
  have hd : d < 4 := by omega
  have hs : s < 4 := by omega
  have c1 : (nI d).toNatClampNeg = d := cl_n (by omega)
  have c2 : (nI s).toNatClampNeg = s := cl_n (by omega)
  have g1 : ∀ {β : Type} (k : Option β), pIn (nI d) 10 k = k := fun k => pIn_n (by omega) (by omega)
  have g2 : ∀ {β : Type} (k : Option β), pIn (nI s) 10 k = k := fun k => pIn_n (by omega) (by omega)
  have u1 : ∀ x : Int32, upd reg 9 x d = reg d := fun x => pk_un (by omega)
  have u2 : ∀ x : Int32, upd reg 9 x s = reg s := fun x => pk_un (by omega)
  have u6 : ∀ x : Int32, upd reg 9 x 6 = reg 6 := fun x => pk_un (by omega)
  have u0 : ∀ x : Int32, upd reg 9 x 0 = reg 0 := fun x => pk_un (by omega)
  have u4 : ∀ x : Int32, upd reg 9 x 4 = reg 4 := fun x => pk_un (by omega)
  have u5 : ∀ x : Int32, upd reg 9 x 5 = reg 5 := fun x => pk_un (by omega)
  have u7 : ∀ x : Int32, upd reg 9 x 7 = reg 7 := fun x => pk_un (by omega)
  have k10 : ∀ x : Int32, upd cnt 0 x 10 = cnt 10 := fun x => pk_un (by omega)
  have r1 : nI b &&& 15 = 2 := by rw [and15 (by omega), hw0]; rfl
  have r3 : (2 : Int32) < 3 := by decide
  have r4 : (2 : Int32) < 5 := by decide
  have r5 : (2 : Int32) - 2 / 2 * 2 = 0 := by decide
  have r6 : ¬ (3 : Int32) ≤ 2 := by decide
  have r7 : ¬ (5 : Int32) ≤ 2 := by decide
  have r8 : ¬ (0 : Int32) = 1 := by decide
  simp only [-Int32.reduceToNatClampNeg, pLet_e, pB_e2, fX5_push_e, fX5_pop_e, fX5_goes_b79_e, fX5_goes_b67_e, fX5_goes_e, fX5_add_e, fX5_shift_b98_e, fX5_shift_b78_e, fX5_shift_b49_e, fX5_shift_b38_e, fX5_shift_b24_e, fX5_shift_b19_e, fX5_shift_e, fX5_stepOn_b200_e, fX5_stepOn_b300_e, fX5_stepOn_e, fX5_step_b218_e, fX5_step_b258_e, fX5_step_b239_e, fX5_step_b307_e, fX5_step_b278_e, fX5_step_b406_e, fX5_step_b361_e, fX5_step_b421_e, fX5_step_e, setFlags_c, gM_memory_t, sM_memory_t, gM_reg_t, sM_reg_t, gM_given_t, sM_given_t, gM_counts_t, sM_counts_t, gM_kind_t, sM_kind_t, gM_bytes_t, sM_bytes_t, gM_isOver_t, sM_isOver_t, j0, j1, j2, j3, j4, j5, j6, j7, j8, j9, j10, j11, j12, p10_0, p10_1, p10_2, p10_3, p10_4, p10_5, p10_6, p10_7, p10_8, p10_9, p12_0, p12_1, p12_2, p12_3, p12_4, p12_5, p12_6, p12_7, p12_8, p12_9, p12_10, p12_11, hl, hr, hm, hn2, c0, c4, g0, g4, q1, q2, q3, c1, c2, g1, g2, u0, u1, u2, u4, u5, u6, u7, k10, if_true, if_false, ne_1_0, ne_23_0, ne_23_1, ne_23_2, ne_23_3, ne_23_4, ne_23_5, ne_23_6, ne_23_7, ne_23_8, ne_23_9, ne_23_10, ne_23_11, ne_23_12, ne_23_13, ne_23_14, ne_23_15, ne_23_16, ne_23_17, ne_23_18, ne_23_19, ne_23_20, ne_23_21, ne_23_22, ne_23_24, ne_23_25, ne_23_26, ne_23_27, ne_23_28, ne_23_29, r1, r3, r4, r5, r6, r7, r8, hfl, ne_2_0, ne_0_1]
set_option maxRecDepth 20000 in
theorem sp_23_3t {mem reg inp rq gvn size len pages which exA exT cnt ks : Nat → Int32} {rf im rm lr room trn kd by_ fm fs fp fd lb ov : Int32} {a b n d s : Nat} (ha : a < 256) (hb : b < 256) (hn : n < 256) (hr : reg 9 = nI a) (hm : mem a = nI b) (hn2 : mem ((a + 1) % 256) = nI n) (hk : kM b = 23) (hB : bytB b = 2) (hde : b / 4 % 4 = d) (hse : b % 4 = s) (hw0 : b % 16 = 3) (hfl : reg 6 = 1) :
    fX5_step (rf, mem, reg, inp, im, rq, rm, lr, gvn, size, len, pages, which, exA, exT, room, trn, cnt, kd, by_, fm, fs, fp, fd, ks, lb, ov) = some (rf, mem, (upd (upd reg 9 ((nI a + 2) &&& 255)) 9 (nI n)), inp, im, rq, rm, lr, gvn, size, len, pages, which, exA, exT, room, trn, (upd cnt 0 (cnt 0 + 1)), 23, 2, fm, fs, fp, fd, ks, lb, ov) := by
  have hl : fX5_look (rf, mem, reg, inp, im, rq, rm, lr, gvn, size, len, pages, which, exA, exT, room, trn, cnt, kd, by_, fm, fs, fp, fd, ks, lb, ov) (nI a) = some (rf, mem, reg, inp, im, rq, rm, lr, gvn, size, len, pages, which, exA, exT, room, trn, cnt, 23, 2, fm, fs, fp, fd, ks, lb, ov) := by
    rw [look_e ha hb (show gM_memory (rf, mem, reg, inp, im, rq, rm, lr, gvn, size, len, pages, which, exA, exT, room, trn, cnt, kd, by_, fm, fs, fp, fd, ks, lb, ov) a = nI b from hm), hk, hB]
    rfl
  have c0 : (nI a).toNatClampNeg = a := cl_n (by omega)
  have c4 : (nI ((a + 1) % 256)).toNatClampNeg = (a + 1) % 256 := cl_n (by omega)
  have g0 : ∀ {β : Type} (k : Option β), pIn (nI a) 256 k = k := fun k => pIn_n (by omega) (by omega)
  have g4 : ∀ {β : Type} (k : Option β), pIn (nI ((a + 1) % 256)) 256 k = k := fun k => pIn_n (by omega) (by omega)
  have q1 : (nI a + 1) &&& 255 = nI ((a + 1) % 256) := by rw [nI_1, and255 (by omega)]
  have q2 : (nI b >>> ((2 : Int32) &&& 31)) &&& 3 = nI d := by rw [pk_shrN (by omega) _ 2 rfl, pk_andN (by omega) 2 rfl, ← hde]
  have q3 : nI b &&& 3 = nI s := by rw [pk_andN (by omega) 2 rfl, ← hse]
  have hd : d < 4 := by omega
  have hs : s < 4 := by omega
  have c1 : (nI d).toNatClampNeg = d := cl_n (by omega)
  have c2 : (nI s).toNatClampNeg = s := cl_n (by omega)
  have g1 : ∀ {β : Type} (k : Option β), pIn (nI d) 10 k = k := fun k => pIn_n (by omega) (by omega)
  have g2 : ∀ {β : Type} (k : Option β), pIn (nI s) 10 k = k := fun k => pIn_n (by omega) (by omega)
  have u1 : ∀ x : Int32, upd reg 9 x d = reg d := fun x => pk_un (by omega)
  have u2 : ∀ x : Int32, upd reg 9 x s = reg s := fun x => pk_un (by omega)
  have u6 : ∀ x : Int32, upd reg 9 x 6 = reg 6 := fun x => pk_un (by omega)
  have u0 : ∀ x : Int32, upd reg 9 x 0 = reg 0 := fun x => pk_un (by omega)
  have u4 : ∀ x : Int32, upd reg 9 x 4 = reg 4 := fun x => pk_un (by omega)
  have u5 : ∀ x : Int32, upd reg 9 x 5 = reg 5 := fun x => pk_un (by omega)
  have u7 : ∀ x : Int32, upd reg 9 x 7 = reg 7 := fun x => pk_un (by omega)
  have k10 : ∀ x : Int32, upd cnt 0 x 10 = cnt 10 := fun x => pk_un (by omega)
  have r1 : nI b &&& 15 = 3 := by rw [and15 (by omega), hw0]; rfl
  have r3 : ¬ (3 : Int32) < 3 := by decide
  have r4 : (3 : Int32) < 5 := by decide
  have r5 : (3 : Int32) - 3 / 2 * 2 = 1 := by decide
  have r6 : (3 : Int32) ≤ 3 := by decide
  have r7 : ¬ (5 : Int32) ≤ 3 := by decide
  have r8 : ¬ (0 : Int32) = 1 := by decide
  simp only [-Int32.reduceToNatClampNeg, pLet_e, pB_e2, fX5_push_e, fX5_pop_e, fX5_goes_b79_e, fX5_goes_b67_e, fX5_goes_e, fX5_add_e, fX5_shift_b98_e, fX5_shift_b78_e, fX5_shift_b49_e, fX5_shift_b38_e, fX5_shift_b24_e, fX5_shift_b19_e, fX5_shift_e, fX5_stepOn_b200_e, fX5_stepOn_b300_e, fX5_stepOn_e, fX5_step_b218_e, fX5_step_b258_e, fX5_step_b239_e, fX5_step_b307_e, fX5_step_b278_e, fX5_step_b406_e, fX5_step_b361_e, fX5_step_b421_e, fX5_step_e, setFlags_c, gM_memory_t, sM_memory_t, gM_reg_t, sM_reg_t, gM_given_t, sM_given_t, gM_counts_t, sM_counts_t, gM_kind_t, sM_kind_t, gM_bytes_t, sM_bytes_t, gM_isOver_t, sM_isOver_t, j0, j1, j2, j3, j4, j5, j6, j7, j8, j9, j10, j11, j12, p10_0, p10_1, p10_2, p10_3, p10_4, p10_5, p10_6, p10_7, p10_8, p10_9, p12_0, p12_1, p12_2, p12_3, p12_4, p12_5, p12_6, p12_7, p12_8, p12_9, p12_10, p12_11, hl, hr, hm, hn2, c0, c4, g0, g4, q1, q2, q3, c1, c2, g1, g2, u0, u1, u2, u4, u5, u6, u7, k10, if_true, if_false, ne_1_0, ne_23_0, ne_23_1, ne_23_2, ne_23_3, ne_23_4, ne_23_5, ne_23_6, ne_23_7, ne_23_8, ne_23_9, ne_23_10, ne_23_11, ne_23_12, ne_23_13, ne_23_14, ne_23_15, ne_23_16, ne_23_17, ne_23_18, ne_23_19, ne_23_20, ne_23_21, ne_23_22, ne_23_24, ne_23_25, ne_23_26, ne_23_27, ne_23_28, ne_23_29, r1, r3, r4, r5, r6, r7, r8, hfl, ne_3_0, ne_0_1]
set_option maxRecDepth 20000 in
theorem sp_23_3f {mem reg inp rq gvn size len pages which exA exT cnt ks : Nat → Int32} {rf im rm lr room trn kd by_ fm fs fp fd lb ov : Int32} {a b n d s : Nat} (ha : a < 256) (hb : b < 256) (hn : n < 256) (hr : reg 9 = nI a) (hm : mem a = nI b) (hn2 : mem ((a + 1) % 256) = nI n) (hk : kM b = 23) (hB : bytB b = 2) (hde : b / 4 % 4 = d) (hse : b % 4 = s) (hw0 : b % 16 = 3) (hfl : ¬ reg 6 = 1) :
    fX5_step (rf, mem, reg, inp, im, rq, rm, lr, gvn, size, len, pages, which, exA, exT, room, trn, cnt, kd, by_, fm, fs, fp, fd, ks, lb, ov) = some (rf, mem, (upd (upd reg 9 ((nI a + 2) &&& 255)) 9 ((nI a + 2) &&& 255)), inp, im, rq, rm, lr, gvn, size, len, pages, which, exA, exT, room, trn, (upd cnt 0 (cnt 0 + 1)), 23, 2, fm, fs, fp, fd, ks, lb, ov) := by
  have hl : fX5_look (rf, mem, reg, inp, im, rq, rm, lr, gvn, size, len, pages, which, exA, exT, room, trn, cnt, kd, by_, fm, fs, fp, fd, ks, lb, ov) (nI a) = some (rf, mem, reg, inp, im, rq, rm, lr, gvn, size, len, pages, which, exA, exT, room, trn, cnt, 23, 2, fm, fs, fp, fd, ks, lb, ov) := by
    rw [look_e ha hb (show gM_memory (rf, mem, reg, inp, im, rq, rm, lr, gvn, size, len, pages, which, exA, exT, room, trn, cnt, kd, by_, fm, fs, fp, fd, ks, lb, ov) a = nI b from hm), hk, hB]
    rfl
  have c0 : (nI a).toNatClampNeg = a := cl_n (by omega)
  have c4 : (nI ((a + 1) % 256)).toNatClampNeg = (a + 1) % 256 := cl_n (by omega)
  have g0 : ∀ {β : Type} (k : Option β), pIn (nI a) 256 k = k := fun k => pIn_n (by omega) (by omega)
  have g4 : ∀ {β : Type} (k : Option β), pIn (nI ((a + 1) % 256)) 256 k = k := fun k => pIn_n (by omega) (by omega)
  have q1 : (nI a + 1) &&& 255 = nI ((a + 1) % 256) := by rw [nI_1, and255 (by omega)]
  have q2 : (nI b >>> ((2 : Int32) &&& 31)) &&& 3 = nI d := by rw [pk_shrN (by omega) _ 2 rfl, pk_andN (by omega) 2 rfl, ← hde]
  have q3 : nI b &&& 3 = nI s := by rw [pk_andN (by omega) 2 rfl, ← hse]
  have hd : d < 4 := by omega
  have hs : s < 4 := by omega
  have c1 : (nI d).toNatClampNeg = d := cl_n (by omega)
  have c2 : (nI s).toNatClampNeg = s := cl_n (by omega)
  have g1 : ∀ {β : Type} (k : Option β), pIn (nI d) 10 k = k := fun k => pIn_n (by omega) (by omega)
  have g2 : ∀ {β : Type} (k : Option β), pIn (nI s) 10 k = k := fun k => pIn_n (by omega) (by omega)
  have u1 : ∀ x : Int32, upd reg 9 x d = reg d := fun x => pk_un (by omega)
  have u2 : ∀ x : Int32, upd reg 9 x s = reg s := fun x => pk_un (by omega)
  have u6 : ∀ x : Int32, upd reg 9 x 6 = reg 6 := fun x => pk_un (by omega)
  have u0 : ∀ x : Int32, upd reg 9 x 0 = reg 0 := fun x => pk_un (by omega)
  have u4 : ∀ x : Int32, upd reg 9 x 4 = reg 4 := fun x => pk_un (by omega)
  have u5 : ∀ x : Int32, upd reg 9 x 5 = reg 5 := fun x => pk_un (by omega)
  have u7 : ∀ x : Int32, upd reg 9 x 7 = reg 7 := fun x => pk_un (by omega)
  have k10 : ∀ x : Int32, upd cnt 0 x 10 = cnt 10 := fun x => pk_un (by omega)
  have r1 : nI b &&& 15 = 3 := by rw [and15 (by omega), hw0]; rfl
  have r3 : ¬ (3 : Int32) < 3 := by decide
  have r4 : (3 : Int32) < 5 := by decide
  have r5 : (3 : Int32) - 3 / 2 * 2 = 1 := by decide
  have r6 : (3 : Int32) ≤ 3 := by decide
  have r7 : ¬ (5 : Int32) ≤ 3 := by decide
  have r8 : ¬ (0 : Int32) = 1 := by decide
  simp only [-Int32.reduceToNatClampNeg, pLet_e, pB_e2, fX5_push_e, fX5_pop_e, fX5_goes_b79_e, fX5_goes_b67_e, fX5_goes_e, fX5_add_e, fX5_shift_b98_e, fX5_shift_b78_e, fX5_shift_b49_e, fX5_shift_b38_e, fX5_shift_b24_e, fX5_shift_b19_e, fX5_shift_e, fX5_stepOn_b200_e, fX5_stepOn_b300_e, fX5_stepOn_e, fX5_step_b218_e, fX5_step_b258_e, fX5_step_b239_e, fX5_step_b307_e, fX5_step_b278_e, fX5_step_b406_e, fX5_step_b361_e, fX5_step_b421_e, fX5_step_e, setFlags_c, gM_memory_t, sM_memory_t, gM_reg_t, sM_reg_t, gM_given_t, sM_given_t, gM_counts_t, sM_counts_t, gM_kind_t, sM_kind_t, gM_bytes_t, sM_bytes_t, gM_isOver_t, sM_isOver_t, j0, j1, j2, j3, j4, j5, j6, j7, j8, j9, j10, j11, j12, p10_0, p10_1, p10_2, p10_3, p10_4, p10_5, p10_6, p10_7, p10_8, p10_9, p12_0, p12_1, p12_2, p12_3, p12_4, p12_5, p12_6, p12_7, p12_8, p12_9, p12_10, p12_11, hl, hr, hm, hn2, c0, c4, g0, g4, q1, q2, q3, c1, c2, g1, g2, u0, u1, u2, u4, u5, u6, u7, k10, if_true, if_false, ne_1_0, ne_23_0, ne_23_1, ne_23_2, ne_23_3, ne_23_4, ne_23_5, ne_23_6, ne_23_7, ne_23_8, ne_23_9, ne_23_10, ne_23_11, ne_23_12, ne_23_13, ne_23_14, ne_23_15, ne_23_16, ne_23_17, ne_23_18, ne_23_19, ne_23_20, ne_23_21, ne_23_22, ne_23_24, ne_23_25, ne_23_26, ne_23_27, ne_23_28, ne_23_29, r1, r3, r4, r5, r6, r7, r8, hfl, ne_3_0, ne_0_1]
set_option maxRecDepth 20000 in
theorem sp_23_4t {mem reg inp rq gvn size len pages which exA exT cnt ks : Nat → Int32} {rf im rm lr room trn kd by_ fm fs fp fd lb ov : Int32} {a b n d s : Nat} (ha : a < 256) (hb : b < 256) (hn : n < 256) (hr : reg 9 = nI a) (hm : mem a = nI b) (hn2 : mem ((a + 1) % 256) = nI n) (hk : kM b = 23) (hB : bytB b = 2) (hde : b / 4 % 4 = d) (hse : b % 4 = s) (hw0 : b % 16 = 4) (hfl : ¬ reg 6 = 1) :
    fX5_step (rf, mem, reg, inp, im, rq, rm, lr, gvn, size, len, pages, which, exA, exT, room, trn, cnt, kd, by_, fm, fs, fp, fd, ks, lb, ov) = some (rf, mem, (upd (upd reg 9 ((nI a + 2) &&& 255)) 9 (nI n)), inp, im, rq, rm, lr, gvn, size, len, pages, which, exA, exT, room, trn, (upd cnt 0 (cnt 0 + 1)), 23, 2, fm, fs, fp, fd, ks, lb, ov) := by
  have hl : fX5_look (rf, mem, reg, inp, im, rq, rm, lr, gvn, size, len, pages, which, exA, exT, room, trn, cnt, kd, by_, fm, fs, fp, fd, ks, lb, ov) (nI a) = some (rf, mem, reg, inp, im, rq, rm, lr, gvn, size, len, pages, which, exA, exT, room, trn, cnt, 23, 2, fm, fs, fp, fd, ks, lb, ov) := by
    rw [look_e ha hb (show gM_memory (rf, mem, reg, inp, im, rq, rm, lr, gvn, size, len, pages, which, exA, exT, room, trn, cnt, kd, by_, fm, fs, fp, fd, ks, lb, ov) a = nI b from hm), hk, hB]
    rfl
  have c0 : (nI a).toNatClampNeg = a := cl_n (by omega)
  have c4 : (nI ((a + 1) % 256)).toNatClampNeg = (a + 1) % 256 := cl_n (by omega)
  have g0 : ∀ {β : Type} (k : Option β), pIn (nI a) 256 k = k := fun k => pIn_n (by omega) (by omega)
  have g4 : ∀ {β : Type} (k : Option β), pIn (nI ((a + 1) % 256)) 256 k = k := fun k => pIn_n (by omega) (by omega)
  have q1 : (nI a + 1) &&& 255 = nI ((a + 1) % 256) := by rw [nI_1, and255 (by omega)]
  have q2 : (nI b >>> ((2 : Int32) &&& 31)) &&& 3 = nI d := by rw [pk_shrN (by omega) _ 2 rfl, pk_andN (by omega) 2 rfl, ← hde]
  have q3 : nI b &&& 3 = nI s := by rw [pk_andN (by omega) 2 rfl, ← hse]
  have hd : d < 4 := by omega
  have hs : s < 4 := by omega
  have c1 : (nI d).toNatClampNeg = d := cl_n (by omega)
  have c2 : (nI s).toNatClampNeg = s := cl_n (by omega)
  have g1 : ∀ {β : Type} (k : Option β), pIn (nI d) 10 k = k := fun k => pIn_n (by omega) (by omega)
  have g2 : ∀ {β : Type} (k : Option β), pIn (nI s) 10 k = k := fun k => pIn_n (by omega) (by omega)
  have u1 : ∀ x : Int32, upd reg 9 x d = reg d := fun x => pk_un (by omega)
  have u2 : ∀ x : Int32, upd reg 9 x s = reg s := fun x => pk_un (by omega)
  have u6 : ∀ x : Int32, upd reg 9 x 6 = reg 6 := fun x => pk_un (by omega)
  have u0 : ∀ x : Int32, upd reg 9 x 0 = reg 0 := fun x => pk_un (by omega)
  have u4 : ∀ x : Int32, upd reg 9 x 4 = reg 4 := fun x => pk_un (by omega)
  have u5 : ∀ x : Int32, upd reg 9 x 5 = reg 5 := fun x => pk_un (by omega)
  have u7 : ∀ x : Int32, upd reg 9 x 7 = reg 7 := fun x => pk_un (by omega)
  have k10 : ∀ x : Int32, upd cnt 0 x 10 = cnt 10 := fun x => pk_un (by omega)
  have r1 : nI b &&& 15 = 4 := by rw [and15 (by omega), hw0]; rfl
  have r3 : ¬ (4 : Int32) < 3 := by decide
  have r4 : (4 : Int32) < 5 := by decide
  have r5 : (4 : Int32) - 4 / 2 * 2 = 0 := by decide
  have r6 : (3 : Int32) ≤ 4 := by decide
  have r7 : ¬ (5 : Int32) ≤ 4 := by decide
  have r8 : ¬ (0 : Int32) = 1 := by decide
  simp only [-Int32.reduceToNatClampNeg, pLet_e, pB_e2, fX5_push_e, fX5_pop_e, fX5_goes_b79_e, fX5_goes_b67_e, fX5_goes_e, fX5_add_e, fX5_shift_b98_e, fX5_shift_b78_e, fX5_shift_b49_e, fX5_shift_b38_e, fX5_shift_b24_e, fX5_shift_b19_e, fX5_shift_e, fX5_stepOn_b200_e, fX5_stepOn_b300_e, fX5_stepOn_e, fX5_step_b218_e, fX5_step_b258_e, fX5_step_b239_e, fX5_step_b307_e, fX5_step_b278_e, fX5_step_b406_e, fX5_step_b361_e, fX5_step_b421_e, fX5_step_e, setFlags_c, gM_memory_t, sM_memory_t, gM_reg_t, sM_reg_t, gM_given_t, sM_given_t, gM_counts_t, sM_counts_t, gM_kind_t, sM_kind_t, gM_bytes_t, sM_bytes_t, gM_isOver_t, sM_isOver_t, j0, j1, j2, j3, j4, j5, j6, j7, j8, j9, j10, j11, j12, p10_0, p10_1, p10_2, p10_3, p10_4, p10_5, p10_6, p10_7, p10_8, p10_9, p12_0, p12_1, p12_2, p12_3, p12_4, p12_5, p12_6, p12_7, p12_8, p12_9, p12_10, p12_11, hl, hr, hm, hn2, c0, c4, g0, g4, q1, q2, q3, c1, c2, g1, g2, u0, u1, u2, u4, u5, u6, u7, k10, if_true, if_false, ne_1_0, ne_23_0, ne_23_1, ne_23_2, ne_23_3, ne_23_4, ne_23_5, ne_23_6, ne_23_7, ne_23_8, ne_23_9, ne_23_10, ne_23_11, ne_23_12, ne_23_13, ne_23_14, ne_23_15, ne_23_16, ne_23_17, ne_23_18, ne_23_19, ne_23_20, ne_23_21, ne_23_22, ne_23_24, ne_23_25, ne_23_26, ne_23_27, ne_23_28, ne_23_29, r1, r3, r4, r5, r6, r7, r8, hfl, ne_4_0, ne_0_1]
set_option maxRecDepth 20000 in
theorem sp_23_4f {mem reg inp rq gvn size len pages which exA exT cnt ks : Nat → Int32} {rf im rm lr room trn kd by_ fm fs fp fd lb ov : Int32} {a b n d s : Nat} (ha : a < 256) (hb : b < 256) (hn : n < 256) (hr : reg 9 = nI a) (hm : mem a = nI b) (hn2 : mem ((a + 1) % 256) = nI n) (hk : kM b = 23) (hB : bytB b = 2) (hde : b / 4 % 4 = d) (hse : b % 4 = s) (hw0 : b % 16 = 4) (hfl : reg 6 = 1) :
    fX5_step (rf, mem, reg, inp, im, rq, rm, lr, gvn, size, len, pages, which, exA, exT, room, trn, cnt, kd, by_, fm, fs, fp, fd, ks, lb, ov) = some (rf, mem, (upd (upd reg 9 ((nI a + 2) &&& 255)) 9 ((nI a + 2) &&& 255)), inp, im, rq, rm, lr, gvn, size, len, pages, which, exA, exT, room, trn, (upd cnt 0 (cnt 0 + 1)), 23, 2, fm, fs, fp, fd, ks, lb, ov) := by
  have hl : fX5_look (rf, mem, reg, inp, im, rq, rm, lr, gvn, size, len, pages, which, exA, exT, room, trn, cnt, kd, by_, fm, fs, fp, fd, ks, lb, ov) (nI a) = some (rf, mem, reg, inp, im, rq, rm, lr, gvn, size, len, pages, which, exA, exT, room, trn, cnt, 23, 2, fm, fs, fp, fd, ks, lb, ov) := by
    rw [look_e ha hb (show gM_memory (rf, mem, reg, inp, im, rq, rm, lr, gvn, size, len, pages, which, exA, exT, room, trn, cnt, kd, by_, fm, fs, fp, fd, ks, lb, ov) a = nI b from hm), hk, hB]
    rfl
  have c0 : (nI a).toNatClampNeg = a := cl_n (by omega)
  have c4 : (nI ((a + 1) % 256)).toNatClampNeg = (a + 1) % 256 := cl_n (by omega)
  have g0 : ∀ {β : Type} (k : Option β), pIn (nI a) 256 k = k := fun k => pIn_n (by omega) (by omega)
  have g4 : ∀ {β : Type} (k : Option β), pIn (nI ((a + 1) % 256)) 256 k = k := fun k => pIn_n (by omega) (by omega)
  have q1 : (nI a + 1) &&& 255 = nI ((a + 1) % 256) := by rw [nI_1, and255 (by omega)]
  have q2 : (nI b >>> ((2 : Int32) &&& 31)) &&& 3 = nI d := by rw [pk_shrN (by omega) _ 2 rfl, pk_andN (by omega) 2 rfl, ← hde]
  have q3 : nI b &&& 3 = nI s := by rw [pk_andN (by omega) 2 rfl, ← hse]
  have hd : d < 4 := by omega
  have hs : s < 4 := by omega
  have c1 : (nI d).toNatClampNeg = d := cl_n (by omega)
  have c2 : (nI s).toNatClampNeg = s := cl_n (by omega)
  have g1 : ∀ {β : Type} (k : Option β), pIn (nI d) 10 k = k := fun k => pIn_n (by omega) (by omega)
  have g2 : ∀ {β : Type} (k : Option β), pIn (nI s) 10 k = k := fun k => pIn_n (by omega) (by omega)
  have u1 : ∀ x : Int32, upd reg 9 x d = reg d := fun x => pk_un (by omega)
  have u2 : ∀ x : Int32, upd reg 9 x s = reg s := fun x => pk_un (by omega)
  have u6 : ∀ x : Int32, upd reg 9 x 6 = reg 6 := fun x => pk_un (by omega)
  have u0 : ∀ x : Int32, upd reg 9 x 0 = reg 0 := fun x => pk_un (by omega)
  have u4 : ∀ x : Int32, upd reg 9 x 4 = reg 4 := fun x => pk_un (by omega)
  have u5 : ∀ x : Int32, upd reg 9 x 5 = reg 5 := fun x => pk_un (by omega)
  have u7 : ∀ x : Int32, upd reg 9 x 7 = reg 7 := fun x => pk_un (by omega)
  have k10 : ∀ x : Int32, upd cnt 0 x 10 = cnt 10 := fun x => pk_un (by omega)
  have r1 : nI b &&& 15 = 4 := by rw [and15 (by omega), hw0]; rfl
  have r3 : ¬ (4 : Int32) < 3 := by decide
  have r4 : (4 : Int32) < 5 := by decide
  have r5 : (4 : Int32) - 4 / 2 * 2 = 0 := by decide
  have r6 : (3 : Int32) ≤ 4 := by decide
  have r7 : ¬ (5 : Int32) ≤ 4 := by decide
  have r8 : ¬ (0 : Int32) = 1 := by decide
  simp only [-Int32.reduceToNatClampNeg, pLet_e, pB_e2, fX5_push_e, fX5_pop_e, fX5_goes_b79_e, fX5_goes_b67_e, fX5_goes_e, fX5_add_e, fX5_shift_b98_e, fX5_shift_b78_e, fX5_shift_b49_e, fX5_shift_b38_e, fX5_shift_b24_e, fX5_shift_b19_e, fX5_shift_e, fX5_stepOn_b200_e, fX5_stepOn_b300_e, fX5_stepOn_e, fX5_step_b218_e, fX5_step_b258_e, fX5_step_b239_e, fX5_step_b307_e, fX5_step_b278_e, fX5_step_b406_e, fX5_step_b361_e, fX5_step_b421_e, fX5_step_e, setFlags_c, gM_memory_t, sM_memory_t, gM_reg_t, sM_reg_t, gM_given_t, sM_given_t, gM_counts_t, sM_counts_t, gM_kind_t, sM_kind_t, gM_bytes_t, sM_bytes_t, gM_isOver_t, sM_isOver_t, j0, j1, j2, j3, j4, j5, j6, j7, j8, j9, j10, j11, j12, p10_0, p10_1, p10_2, p10_3, p10_4, p10_5, p10_6, p10_7, p10_8, p10_9, p12_0, p12_1, p12_2, p12_3, p12_4, p12_5, p12_6, p12_7, p12_8, p12_9, p12_10, p12_11, hl, hr, hm, hn2, c0, c4, g0, g4, q1, q2, q3, c1, c2, g1, g2, u0, u1, u2, u4, u5, u6, u7, k10, if_true, if_false, ne_1_0, ne_23_0, ne_23_1, ne_23_2, ne_23_3, ne_23_4, ne_23_5, ne_23_6, ne_23_7, ne_23_8, ne_23_9, ne_23_10, ne_23_11, ne_23_12, ne_23_13, ne_23_14, ne_23_15, ne_23_16, ne_23_17, ne_23_18, ne_23_19, ne_23_20, ne_23_21, ne_23_22, ne_23_24, ne_23_25, ne_23_26, ne_23_27, ne_23_28, ne_23_29, r1, r3, r4, r5, r6, r7, r8, hfl, ne_4_0, ne_0_1]
set_option maxRecDepth 20000 in
theorem sp_23_5t {mem reg inp rq gvn size len pages which exA exT cnt ks : Nat → Int32} {rf im rm lr room trn kd by_ fm fs fp fd lb ov : Int32} {a b n d s : Nat} (ha : a < 256) (hb : b < 256) (hn : n < 256) (hr : reg 9 = nI a) (hm : mem a = nI b) (hn2 : mem ((a + 1) % 256) = nI n) (hk : kM b = 23) (hB : bytB b = 2) (hde : b / 4 % 4 = d) (hse : b % 4 = s) (hw0 : b % 16 = 5) (hfl : reg 7 = 1) :
    fX5_step (rf, mem, reg, inp, im, rq, rm, lr, gvn, size, len, pages, which, exA, exT, room, trn, cnt, kd, by_, fm, fs, fp, fd, ks, lb, ov) = some (rf, mem, (upd (upd reg 9 ((nI a + 2) &&& 255)) 9 (nI n)), inp, im, rq, rm, lr, gvn, size, len, pages, which, exA, exT, room, trn, (upd cnt 0 (cnt 0 + 1)), 23, 2, fm, fs, fp, fd, ks, lb, ov) := by
  have hl : fX5_look (rf, mem, reg, inp, im, rq, rm, lr, gvn, size, len, pages, which, exA, exT, room, trn, cnt, kd, by_, fm, fs, fp, fd, ks, lb, ov) (nI a) = some (rf, mem, reg, inp, im, rq, rm, lr, gvn, size, len, pages, which, exA, exT, room, trn, cnt, 23, 2, fm, fs, fp, fd, ks, lb, ov) := by
    rw [look_e ha hb (show gM_memory (rf, mem, reg, inp, im, rq, rm, lr, gvn, size, len, pages, which, exA, exT, room, trn, cnt, kd, by_, fm, fs, fp, fd, ks, lb, ov) a = nI b from hm), hk, hB]
    rfl
  have c0 : (nI a).toNatClampNeg = a := cl_n (by omega)
  have c4 : (nI ((a + 1) % 256)).toNatClampNeg = (a + 1) % 256 := cl_n (by omega)
  have g0 : ∀ {β : Type} (k : Option β), pIn (nI a) 256 k = k := fun k => pIn_n (by omega) (by omega)
  have g4 : ∀ {β : Type} (k : Option β), pIn (nI ((a + 1) % 256)) 256 k = k := fun k => pIn_n (by omega) (by omega)
  have q1 : (nI a + 1) &&& 255 = nI ((a + 1) % 256) := by rw [nI_1, and255 (by omega)]
  have q2 : (nI b >>> ((2 : Int32) &&& 31)) &&& 3 = nI d := by rw [pk_shrN (by omega) _ 2 rfl, pk_andN (by omega) 2 rfl, ← hde]
  have q3 : nI b &&& 3 = nI s := by rw [pk_andN (by omega) 2 rfl, ← hse]
  have hd : d < 4 := by omega
  have hs : s < 4 := by omega
  have c1 : (nI d).toNatClampNeg = d := cl_n (by omega)
  have c2 : (nI s).toNatClampNeg = s := cl_n (by omega)
  have g1 : ∀ {β : Type} (k : Option β), pIn (nI d) 10 k = k := fun k => pIn_n (by omega) (by omega)
  have g2 : ∀ {β : Type} (k : Option β), pIn (nI s) 10 k = k := fun k => pIn_n (by omega) (by omega)
  have u1 : ∀ x : Int32, upd reg 9 x d = reg d := fun x => pk_un (by omega)
  have u2 : ∀ x : Int32, upd reg 9 x s = reg s := fun x => pk_un (by omega)
  have u6 : ∀ x : Int32, upd reg 9 x 6 = reg 6 := fun x => pk_un (by omega)
  have u0 : ∀ x : Int32, upd reg 9 x 0 = reg 0 := fun x => pk_un (by omega)
  have u4 : ∀ x : Int32, upd reg 9 x 4 = reg 4 := fun x => pk_un (by omega)
  have u5 : ∀ x : Int32, upd reg 9 x 5 = reg 5 := fun x => pk_un (by omega)
  have u7 : ∀ x : Int32, upd reg 9 x 7 = reg 7 := fun x => pk_un (by omega)
  have k10 : ∀ x : Int32, upd cnt 0 x 10 = cnt 10 := fun x => pk_un (by omega)
  have r1 : nI b &&& 15 = 5 := by rw [and15 (by omega), hw0]; rfl
  have r3 : ¬ (5 : Int32) < 3 := by decide
  have r4 : ¬ (5 : Int32) < 5 := by decide
  have r5 : (5 : Int32) - 5 / 2 * 2 = 1 := by decide
  have r6 : (3 : Int32) ≤ 5 := by decide
  have r7 : (5 : Int32) ≤ 5 := by decide
  have r8 : ¬ (0 : Int32) = 1 := by decide
  simp only [-Int32.reduceToNatClampNeg, pLet_e, pB_e2, fX5_push_e, fX5_pop_e, fX5_goes_b79_e, fX5_goes_b67_e, fX5_goes_e, fX5_add_e, fX5_shift_b98_e, fX5_shift_b78_e, fX5_shift_b49_e, fX5_shift_b38_e, fX5_shift_b24_e, fX5_shift_b19_e, fX5_shift_e, fX5_stepOn_b200_e, fX5_stepOn_b300_e, fX5_stepOn_e, fX5_step_b218_e, fX5_step_b258_e, fX5_step_b239_e, fX5_step_b307_e, fX5_step_b278_e, fX5_step_b406_e, fX5_step_b361_e, fX5_step_b421_e, fX5_step_e, setFlags_c, gM_memory_t, sM_memory_t, gM_reg_t, sM_reg_t, gM_given_t, sM_given_t, gM_counts_t, sM_counts_t, gM_kind_t, sM_kind_t, gM_bytes_t, sM_bytes_t, gM_isOver_t, sM_isOver_t, j0, j1, j2, j3, j4, j5, j6, j7, j8, j9, j10, j11, j12, p10_0, p10_1, p10_2, p10_3, p10_4, p10_5, p10_6, p10_7, p10_8, p10_9, p12_0, p12_1, p12_2, p12_3, p12_4, p12_5, p12_6, p12_7, p12_8, p12_9, p12_10, p12_11, hl, hr, hm, hn2, c0, c4, g0, g4, q1, q2, q3, c1, c2, g1, g2, u0, u1, u2, u4, u5, u6, u7, k10, if_true, if_false, ne_1_0, ne_23_0, ne_23_1, ne_23_2, ne_23_3, ne_23_4, ne_23_5, ne_23_6, ne_23_7, ne_23_8, ne_23_9, ne_23_10, ne_23_11, ne_23_12, ne_23_13, ne_23_14, ne_23_15, ne_23_16, ne_23_17, ne_23_18, ne_23_19, ne_23_20, ne_23_21, ne_23_22, ne_23_24, ne_23_25, ne_23_26, ne_23_27, ne_23_28, ne_23_29, r1, r3, r4, r5, r6, r7, r8, hfl, ne_5_0, ne_0_1]
set_option maxRecDepth 20000 in
theorem sp_23_5f {mem reg inp rq gvn size len pages which exA exT cnt ks : Nat → Int32} {rf im rm lr room trn kd by_ fm fs fp fd lb ov : Int32} {a b n d s : Nat} (ha : a < 256) (hb : b < 256) (hn : n < 256) (hr : reg 9 = nI a) (hm : mem a = nI b) (hn2 : mem ((a + 1) % 256) = nI n) (hk : kM b = 23) (hB : bytB b = 2) (hde : b / 4 % 4 = d) (hse : b % 4 = s) (hw0 : b % 16 = 5) (hfl : ¬ reg 7 = 1) :
    fX5_step (rf, mem, reg, inp, im, rq, rm, lr, gvn, size, len, pages, which, exA, exT, room, trn, cnt, kd, by_, fm, fs, fp, fd, ks, lb, ov) = some (rf, mem, (upd (upd reg 9 ((nI a + 2) &&& 255)) 9 ((nI a + 2) &&& 255)), inp, im, rq, rm, lr, gvn, size, len, pages, which, exA, exT, room, trn, (upd cnt 0 (cnt 0 + 1)), 23, 2, fm, fs, fp, fd, ks, lb, ov) := by
  have hl : fX5_look (rf, mem, reg, inp, im, rq, rm, lr, gvn, size, len, pages, which, exA, exT, room, trn, cnt, kd, by_, fm, fs, fp, fd, ks, lb, ov) (nI a) = some (rf, mem, reg, inp, im, rq, rm, lr, gvn, size, len, pages, which, exA, exT, room, trn, cnt, 23, 2, fm, fs, fp, fd, ks, lb, ov) := by
    rw [look_e ha hb (show gM_memory (rf, mem, reg, inp, im, rq, rm, lr, gvn, size, len, pages, which, exA, exT, room, trn, cnt, kd, by_, fm, fs, fp, fd, ks, lb, ov) a = nI b from hm), hk, hB]
    rfl
  have c0 : (nI a).toNatClampNeg = a := cl_n (by omega)
  have c4 : (nI ((a + 1) % 256)).toNatClampNeg = (a + 1) % 256 := cl_n (by omega)
  have g0 : ∀ {β : Type} (k : Option β), pIn (nI a) 256 k = k := fun k => pIn_n (by omega) (by omega)
  have g4 : ∀ {β : Type} (k : Option β), pIn (nI ((a + 1) % 256)) 256 k = k := fun k => pIn_n (by omega) (by omega)
  have q1 : (nI a + 1) &&& 255 = nI ((a + 1) % 256) := by rw [nI_1, and255 (by omega)]
  have q2 : (nI b >>> ((2 : Int32) &&& 31)) &&& 3 = nI d := by rw [pk_shrN (by omega) _ 2 rfl, pk_andN (by omega) 2 rfl, ← hde]
  have q3 : nI b &&& 3 = nI s := by rw [pk_andN (by omega) 2 rfl, ← hse]
  have hd : d < 4 := by omega
  have hs : s < 4 := by omega
  have c1 : (nI d).toNatClampNeg = d := cl_n (by omega)
  have c2 : (nI s).toNatClampNeg = s := cl_n (by omega)
  have g1 : ∀ {β : Type} (k : Option β), pIn (nI d) 10 k = k := fun k => pIn_n (by omega) (by omega)
  have g2 : ∀ {β : Type} (k : Option β), pIn (nI s) 10 k = k := fun k => pIn_n (by omega) (by omega)
  have u1 : ∀ x : Int32, upd reg 9 x d = reg d := fun x => pk_un (by omega)
  have u2 : ∀ x : Int32, upd reg 9 x s = reg s := fun x => pk_un (by omega)
  have u6 : ∀ x : Int32, upd reg 9 x 6 = reg 6 := fun x => pk_un (by omega)
  have u0 : ∀ x : Int32, upd reg 9 x 0 = reg 0 := fun x => pk_un (by omega)
  have u4 : ∀ x : Int32, upd reg 9 x 4 = reg 4 := fun x => pk_un (by omega)
  have u5 : ∀ x : Int32, upd reg 9 x 5 = reg 5 := fun x => pk_un (by omega)
  have u7 : ∀ x : Int32, upd reg 9 x 7 = reg 7 := fun x => pk_un (by omega)
  have k10 : ∀ x : Int32, upd cnt 0 x 10 = cnt 10 := fun x => pk_un (by omega)
  have r1 : nI b &&& 15 = 5 := by rw [and15 (by omega), hw0]; rfl
  have r3 : ¬ (5 : Int32) < 3 := by decide
  have r4 : ¬ (5 : Int32) < 5 := by decide
  have r5 : (5 : Int32) - 5 / 2 * 2 = 1 := by decide
  have r6 : (3 : Int32) ≤ 5 := by decide
  have r7 : (5 : Int32) ≤ 5 := by decide
  have r8 : ¬ (0 : Int32) = 1 := by decide
  simp only [-Int32.reduceToNatClampNeg, pLet_e, pB_e2, fX5_push_e, fX5_pop_e, fX5_goes_b79_e, fX5_goes_b67_e, fX5_goes_e, fX5_add_e, fX5_shift_b98_e, fX5_shift_b78_e, fX5_shift_b49_e, fX5_shift_b38_e, fX5_shift_b24_e, fX5_shift_b19_e, fX5_shift_e, fX5_stepOn_b200_e, fX5_stepOn_b300_e, fX5_stepOn_e, fX5_step_b218_e, fX5_step_b258_e, fX5_step_b239_e, fX5_step_b307_e, fX5_step_b278_e, fX5_step_b406_e, fX5_step_b361_e, fX5_step_b421_e, fX5_step_e, setFlags_c, gM_memory_t, sM_memory_t, gM_reg_t, sM_reg_t, gM_given_t, sM_given_t, gM_counts_t, sM_counts_t, gM_kind_t, sM_kind_t, gM_bytes_t, sM_bytes_t, gM_isOver_t, sM_isOver_t, j0, j1, j2, j3, j4, j5, j6, j7, j8, j9, j10, j11, j12, p10_0, p10_1, p10_2, p10_3, p10_4, p10_5, p10_6, p10_7, p10_8, p10_9, p12_0, p12_1, p12_2, p12_3, p12_4, p12_5, p12_6, p12_7, p12_8, p12_9, p12_10, p12_11, hl, hr, hm, hn2, c0, c4, g0, g4, q1, q2, q3, c1, c2, g1, g2, u0, u1, u2, u4, u5, u6, u7, k10, if_true, if_false, ne_1_0, ne_23_0, ne_23_1, ne_23_2, ne_23_3, ne_23_4, ne_23_5, ne_23_6, ne_23_7, ne_23_8, ne_23_9, ne_23_10, ne_23_11, ne_23_12, ne_23_13, ne_23_14, ne_23_15, ne_23_16, ne_23_17, ne_23_18, ne_23_19, ne_23_20, ne_23_21, ne_23_22, ne_23_24, ne_23_25, ne_23_26, ne_23_27, ne_23_28, ne_23_29, r1, r3, r4, r5, r6, r7, r8, hfl, ne_5_0, ne_0_1]
set_option maxRecDepth 20000 in
theorem sp_23_6t {mem reg inp rq gvn size len pages which exA exT cnt ks : Nat → Int32} {rf im rm lr room trn kd by_ fm fs fp fd lb ov : Int32} {a b n d s : Nat} (ha : a < 256) (hb : b < 256) (hn : n < 256) (hr : reg 9 = nI a) (hm : mem a = nI b) (hn2 : mem ((a + 1) % 256) = nI n) (hk : kM b = 23) (hB : bytB b = 2) (hde : b / 4 % 4 = d) (hse : b % 4 = s) (hw0 : b % 16 = 6) (hfl : ¬ reg 7 = 1) :
    fX5_step (rf, mem, reg, inp, im, rq, rm, lr, gvn, size, len, pages, which, exA, exT, room, trn, cnt, kd, by_, fm, fs, fp, fd, ks, lb, ov) = some (rf, mem, (upd (upd reg 9 ((nI a + 2) &&& 255)) 9 (nI n)), inp, im, rq, rm, lr, gvn, size, len, pages, which, exA, exT, room, trn, (upd cnt 0 (cnt 0 + 1)), 23, 2, fm, fs, fp, fd, ks, lb, ov) := by
  have hl : fX5_look (rf, mem, reg, inp, im, rq, rm, lr, gvn, size, len, pages, which, exA, exT, room, trn, cnt, kd, by_, fm, fs, fp, fd, ks, lb, ov) (nI a) = some (rf, mem, reg, inp, im, rq, rm, lr, gvn, size, len, pages, which, exA, exT, room, trn, cnt, 23, 2, fm, fs, fp, fd, ks, lb, ov) := by
    rw [look_e ha hb (show gM_memory (rf, mem, reg, inp, im, rq, rm, lr, gvn, size, len, pages, which, exA, exT, room, trn, cnt, kd, by_, fm, fs, fp, fd, ks, lb, ov) a = nI b from hm), hk, hB]
    rfl
  have c0 : (nI a).toNatClampNeg = a := cl_n (by omega)
  have c4 : (nI ((a + 1) % 256)).toNatClampNeg = (a + 1) % 256 := cl_n (by omega)
  have g0 : ∀ {β : Type} (k : Option β), pIn (nI a) 256 k = k := fun k => pIn_n (by omega) (by omega)
  have g4 : ∀ {β : Type} (k : Option β), pIn (nI ((a + 1) % 256)) 256 k = k := fun k => pIn_n (by omega) (by omega)
  have q1 : (nI a + 1) &&& 255 = nI ((a + 1) % 256) := by rw [nI_1, and255 (by omega)]
  have q2 : (nI b >>> ((2 : Int32) &&& 31)) &&& 3 = nI d := by rw [pk_shrN (by omega) _ 2 rfl, pk_andN (by omega) 2 rfl, ← hde]
  have q3 : nI b &&& 3 = nI s := by rw [pk_andN (by omega) 2 rfl, ← hse]
  have hd : d < 4 := by omega
  have hs : s < 4 := by omega
  have c1 : (nI d).toNatClampNeg = d := cl_n (by omega)
  have c2 : (nI s).toNatClampNeg = s := cl_n (by omega)
  have g1 : ∀ {β : Type} (k : Option β), pIn (nI d) 10 k = k := fun k => pIn_n (by omega) (by omega)
  have g2 : ∀ {β : Type} (k : Option β), pIn (nI s) 10 k = k := fun k => pIn_n (by omega) (by omega)
  have u1 : ∀ x : Int32, upd reg 9 x d = reg d := fun x => pk_un (by omega)
  have u2 : ∀ x : Int32, upd reg 9 x s = reg s := fun x => pk_un (by omega)
  have u6 : ∀ x : Int32, upd reg 9 x 6 = reg 6 := fun x => pk_un (by omega)
  have u0 : ∀ x : Int32, upd reg 9 x 0 = reg 0 := fun x => pk_un (by omega)
  have u4 : ∀ x : Int32, upd reg 9 x 4 = reg 4 := fun x => pk_un (by omega)
  have u5 : ∀ x : Int32, upd reg 9 x 5 = reg 5 := fun x => pk_un (by omega)
  have u7 : ∀ x : Int32, upd reg 9 x 7 = reg 7 := fun x => pk_un (by omega)
  have k10 : ∀ x : Int32, upd cnt 0 x 10 = cnt 10 := fun x => pk_un (by omega)
  have r1 : nI b &&& 15 = 6 := by rw [and15 (by omega), hw0]; rfl
  have r3 : ¬ (6 : Int32) < 3 := by decide
  have r4 : ¬ (6 : Int32) < 5 := by decide
  have r5 : (6 : Int32) - 6 / 2 * 2 = 0 := by decide
  have r6 : (3 : Int32) ≤ 6 := by decide
  have r7 : (5 : Int32) ≤ 6 := by decide
  have r8 : ¬ (0 : Int32) = 1 := by decide
  simp only [-Int32.reduceToNatClampNeg, pLet_e, pB_e2, fX5_push_e, fX5_pop_e, fX5_goes_b79_e, fX5_goes_b67_e, fX5_goes_e, fX5_add_e, fX5_shift_b98_e, fX5_shift_b78_e, fX5_shift_b49_e, fX5_shift_b38_e, fX5_shift_b24_e, fX5_shift_b19_e, fX5_shift_e, fX5_stepOn_b200_e, fX5_stepOn_b300_e, fX5_stepOn_e, fX5_step_b218_e, fX5_step_b258_e, fX5_step_b239_e, fX5_step_b307_e, fX5_step_b278_e, fX5_step_b406_e, fX5_step_b361_e, fX5_step_b421_e, fX5_step_e, setFlags_c, gM_memory_t, sM_memory_t, gM_reg_t, sM_reg_t, gM_given_t, sM_given_t, gM_counts_t, sM_counts_t, gM_kind_t, sM_kind_t, gM_bytes_t, sM_bytes_t, gM_isOver_t, sM_isOver_t, j0, j1, j2, j3, j4, j5, j6, j7, j8, j9, j10, j11, j12, p10_0, p10_1, p10_2, p10_3, p10_4, p10_5, p10_6, p10_7, p10_8, p10_9, p12_0, p12_1, p12_2, p12_3, p12_4, p12_5, p12_6, p12_7, p12_8, p12_9, p12_10, p12_11, hl, hr, hm, hn2, c0, c4, g0, g4, q1, q2, q3, c1, c2, g1, g2, u0, u1, u2, u4, u5, u6, u7, k10, if_true, if_false, ne_1_0, ne_23_0, ne_23_1, ne_23_2, ne_23_3, ne_23_4, ne_23_5, ne_23_6, ne_23_7, ne_23_8, ne_23_9, ne_23_10, ne_23_11, ne_23_12, ne_23_13, ne_23_14, ne_23_15, ne_23_16, ne_23_17, ne_23_18, ne_23_19, ne_23_20, ne_23_21, ne_23_22, ne_23_24, ne_23_25, ne_23_26, ne_23_27, ne_23_28, ne_23_29, r1, r3, r4, r5, r6, r7, r8, hfl, ne_6_0, ne_0_1]
set_option maxRecDepth 20000 in
theorem sp_23_6f {mem reg inp rq gvn size len pages which exA exT cnt ks : Nat → Int32} {rf im rm lr room trn kd by_ fm fs fp fd lb ov : Int32} {a b n d s : Nat} (ha : a < 256) (hb : b < 256) (hn : n < 256) (hr : reg 9 = nI a) (hm : mem a = nI b) (hn2 : mem ((a + 1) % 256) = nI n) (hk : kM b = 23) (hB : bytB b = 2) (hde : b / 4 % 4 = d) (hse : b % 4 = s) (hw0 : b % 16 = 6) (hfl : reg 7 = 1) :
    fX5_step (rf, mem, reg, inp, im, rq, rm, lr, gvn, size, len, pages, which, exA, exT, room, trn, cnt, kd, by_, fm, fs, fp, fd, ks, lb, ov) = some (rf, mem, (upd (upd reg 9 ((nI a + 2) &&& 255)) 9 ((nI a + 2) &&& 255)), inp, im, rq, rm, lr, gvn, size, len, pages, which, exA, exT, room, trn, (upd cnt 0 (cnt 0 + 1)), 23, 2, fm, fs, fp, fd, ks, lb, ov) := by
  have hl : fX5_look (rf, mem, reg, inp, im, rq, rm, lr, gvn, size, len, pages, which, exA, exT, room, trn, cnt, kd, by_, fm, fs, fp, fd, ks, lb, ov) (nI a) = some (rf, mem, reg, inp, im, rq, rm, lr, gvn, size, len, pages, which, exA, exT, room, trn, cnt, 23, 2, fm, fs, fp, fd, ks, lb, ov) := by
    rw [look_e ha hb (show gM_memory (rf, mem, reg, inp, im, rq, rm, lr, gvn, size, len, pages, which, exA, exT, room, trn, cnt, kd, by_, fm, fs, fp, fd, ks, lb, ov) a = nI b from hm), hk, hB]
    rfl
  have c0 : (nI a).toNatClampNeg = a := cl_n (by omega)
  have c4 : (nI ((a + 1) % 256)).toNatClampNeg = (a + 1) % 256 := cl_n (by omega)
  have g0 : ∀ {β : Type} (k : Option β), pIn (nI a) 256 k = k := fun k => pIn_n (by omega) (by omega)
  have g4 : ∀ {β : Type} (k : Option β), pIn (nI ((a + 1) % 256)) 256 k = k := fun k => pIn_n (by omega) (by omega)
  have q1 : (nI a + 1) &&& 255 = nI ((a + 1) % 256) := by rw [nI_1, and255 (by omega)]
  have q2 : (nI b >>> ((2 : Int32) &&& 31)) &&& 3 = nI d := by rw [pk_shrN (by omega) _ 2 rfl, pk_andN (by omega) 2 rfl, ← hde]
  have q3 : nI b &&& 3 = nI s := by rw [pk_andN (by omega) 2 rfl, ← hse]
  have hd : d < 4 := by omega
  have hs : s < 4 := by omega
  have c1 : (nI d).toNatClampNeg = d := cl_n (by omega)
  have c2 : (nI s).toNatClampNeg = s := cl_n (by omega)
  have g1 : ∀ {β : Type} (k : Option β), pIn (nI d) 10 k = k := fun k => pIn_n (by omega) (by omega)
  have g2 : ∀ {β : Type} (k : Option β), pIn (nI s) 10 k = k := fun k => pIn_n (by omega) (by omega)
  have u1 : ∀ x : Int32, upd reg 9 x d = reg d := fun x => pk_un (by omega)
  have u2 : ∀ x : Int32, upd reg 9 x s = reg s := fun x => pk_un (by omega)
  have u6 : ∀ x : Int32, upd reg 9 x 6 = reg 6 := fun x => pk_un (by omega)
  have u0 : ∀ x : Int32, upd reg 9 x 0 = reg 0 := fun x => pk_un (by omega)
  have u4 : ∀ x : Int32, upd reg 9 x 4 = reg 4 := fun x => pk_un (by omega)
  have u5 : ∀ x : Int32, upd reg 9 x 5 = reg 5 := fun x => pk_un (by omega)
  have u7 : ∀ x : Int32, upd reg 9 x 7 = reg 7 := fun x => pk_un (by omega)
  have k10 : ∀ x : Int32, upd cnt 0 x 10 = cnt 10 := fun x => pk_un (by omega)
  have r1 : nI b &&& 15 = 6 := by rw [and15 (by omega), hw0]; rfl
  have r3 : ¬ (6 : Int32) < 3 := by decide
  have r4 : ¬ (6 : Int32) < 5 := by decide
  have r5 : (6 : Int32) - 6 / 2 * 2 = 0 := by decide
  have r6 : (3 : Int32) ≤ 6 := by decide
  have r7 : (5 : Int32) ≤ 6 := by decide
  have r8 : ¬ (0 : Int32) = 1 := by decide
  simp only [-Int32.reduceToNatClampNeg, pLet_e, pB_e2, fX5_push_e, fX5_pop_e, fX5_goes_b79_e, fX5_goes_b67_e, fX5_goes_e, fX5_add_e, fX5_shift_b98_e, fX5_shift_b78_e, fX5_shift_b49_e, fX5_shift_b38_e, fX5_shift_b24_e, fX5_shift_b19_e, fX5_shift_e, fX5_stepOn_b200_e, fX5_stepOn_b300_e, fX5_stepOn_e, fX5_step_b218_e, fX5_step_b258_e, fX5_step_b239_e, fX5_step_b307_e, fX5_step_b278_e, fX5_step_b406_e, fX5_step_b361_e, fX5_step_b421_e, fX5_step_e, setFlags_c, gM_memory_t, sM_memory_t, gM_reg_t, sM_reg_t, gM_given_t, sM_given_t, gM_counts_t, sM_counts_t, gM_kind_t, sM_kind_t, gM_bytes_t, sM_bytes_t, gM_isOver_t, sM_isOver_t, j0, j1, j2, j3, j4, j5, j6, j7, j8, j9, j10, j11, j12, p10_0, p10_1, p10_2, p10_3, p10_4, p10_5, p10_6, p10_7, p10_8, p10_9, p12_0, p12_1, p12_2, p12_3, p12_4, p12_5, p12_6, p12_7, p12_8, p12_9, p12_10, p12_11, hl, hr, hm, hn2, c0, c4, g0, g4, q1, q2, q3, c1, c2, g1, g2, u0, u1, u2, u4, u5, u6, u7, k10, if_true, if_false, ne_1_0, ne_23_0, ne_23_1, ne_23_2, ne_23_3, ne_23_4, ne_23_5, ne_23_6, ne_23_7, ne_23_8, ne_23_9, ne_23_10, ne_23_11, ne_23_12, ne_23_13, ne_23_14, ne_23_15, ne_23_16, ne_23_17, ne_23_18, ne_23_19, ne_23_20, ne_23_21, ne_23_22, ne_23_24, ne_23_25, ne_23_26, ne_23_27, ne_23_28, ne_23_29, r1, r3, r4, r5, r6, r7, r8, hfl, ne_6_0, ne_0_1]
set_option maxRecDepth 20000 in
theorem sp_24 {mem reg inp rq gvn size len pages which exA exT cnt ks : Nat → Int32} {rf im rm lr room trn kd by_ fm fs fp fd lb ov : Int32} {a b n d s : Nat} (ha : a < 256) (hb : b < 256) (hn : n < 256) (hr : reg 9 = nI a) (hm : mem a = nI b) (hn2 : mem ((a + 1) % 256) = nI n) (hk : kM b = 24) (hB : bytB b = 2) (hde : b / 4 % 4 = d) (hse : b % 4 = s) {sp : Nat} (hsp : sp < 256) (hspe : (reg 4 - 1) &&& 255 = nI sp) {mem' size' cnt' : Nat → Int32} (hw : fX5_write (rf, mem, (upd (upd reg 9 ((nI a + 2) &&& 255)) 4 (nI sp)), inp, im, rq, rm, lr, gvn, size, len, pages, which, exA, exT, room, trn, (upd cnt 0 (cnt 0 + 1)), 24, 2, fm, fs, fp, fd, ks, lb, ov) (nI sp) ((nI a + 2) &&& 255) = some (rf, mem', (upd (upd reg 9 ((nI a + 2) &&& 255)) 4 (nI sp)), inp, im, rq, rm, lr, gvn, size', len, pages, which, exA, exT, room, trn, cnt', 24, 2, fm, fs, fp, fd, ks, lb, ov)) :
    fX5_step (rf, mem, reg, inp, im, rq, rm, lr, gvn, size, len, pages, which, exA, exT, room, trn, cnt, kd, by_, fm, fs, fp, fd, ks, lb, ov) = some (rf, mem', (upd (upd (upd reg 9 ((nI a + 2) &&& 255)) 4 (nI sp)) 9 (nI n)), inp, im, rq, rm, lr, gvn, size', len, pages, which, exA, exT, room, trn, cnt', 24, 2, fm, fs, fp, fd, ks, lb, ov) := by
  have hl : fX5_look (rf, mem, reg, inp, im, rq, rm, lr, gvn, size, len, pages, which, exA, exT, room, trn, cnt, kd, by_, fm, fs, fp, fd, ks, lb, ov) (nI a) = some (rf, mem, reg, inp, im, rq, rm, lr, gvn, size, len, pages, which, exA, exT, room, trn, cnt, 24, 2, fm, fs, fp, fd, ks, lb, ov) := by
    rw [look_e ha hb (show gM_memory (rf, mem, reg, inp, im, rq, rm, lr, gvn, size, len, pages, which, exA, exT, room, trn, cnt, kd, by_, fm, fs, fp, fd, ks, lb, ov) a = nI b from hm), hk, hB]
    rfl
  have c0 : (nI a).toNatClampNeg = a := cl_n (by omega)
  have c4 : (nI ((a + 1) % 256)).toNatClampNeg = (a + 1) % 256 := cl_n (by omega)
  have g0 : ∀ {β : Type} (k : Option β), pIn (nI a) 256 k = k := fun k => pIn_n (by omega) (by omega)
  have g4 : ∀ {β : Type} (k : Option β), pIn (nI ((a + 1) % 256)) 256 k = k := fun k => pIn_n (by omega) (by omega)
  have q1 : (nI a + 1) &&& 255 = nI ((a + 1) % 256) := by rw [nI_1, and255 (by omega)]
  have q2 : (nI b >>> ((2 : Int32) &&& 31)) &&& 3 = nI d := by rw [pk_shrN (by omega) _ 2 rfl, pk_andN (by omega) 2 rfl, ← hde]
  have q3 : nI b &&& 3 = nI s := by rw [pk_andN (by omega) 2 rfl, ← hse]
  have hd : d < 4 := by omega
  have hs : s < 4 := by omega
  have c1 : (nI d).toNatClampNeg = d := cl_n (by omega)
  have c2 : (nI s).toNatClampNeg = s := cl_n (by omega)
  have g1 : ∀ {β : Type} (k : Option β), pIn (nI d) 10 k = k := fun k => pIn_n (by omega) (by omega)
  have g2 : ∀ {β : Type} (k : Option β), pIn (nI s) 10 k = k := fun k => pIn_n (by omega) (by omega)
  have u1 : ∀ x : Int32, upd reg 9 x d = reg d := fun x => pk_un (by omega)
  have u2 : ∀ x : Int32, upd reg 9 x s = reg s := fun x => pk_un (by omega)
  have u6 : ∀ x : Int32, upd reg 9 x 6 = reg 6 := fun x => pk_un (by omega)
  have u0 : ∀ x : Int32, upd reg 9 x 0 = reg 0 := fun x => pk_un (by omega)
  have u4 : ∀ x : Int32, upd reg 9 x 4 = reg 4 := fun x => pk_un (by omega)
  have u5 : ∀ x : Int32, upd reg 9 x 5 = reg 5 := fun x => pk_un (by omega)
  have u7 : ∀ x : Int32, upd reg 9 x 7 = reg 7 := fun x => pk_un (by omega)
  have k10 : ∀ x : Int32, upd cnt 0 x 10 = cnt 10 := fun x => pk_un (by omega)
  have g3 : ∀ {β : Type} (k : Option β), pIn (nI sp) 256 k = k := fun k => pIn_n (by omega) (by omega)
  have c3 : (nI sp).toNatClampNeg = sp := cl_n (by omega)
  simp only [-Int32.reduceToNatClampNeg, pLet_e, pB_e2, fX5_push_e, fX5_pop_e, fX5_goes_b79_e, fX5_goes_b67_e, fX5_goes_e, fX5_add_e, fX5_shift_b98_e, fX5_shift_b78_e, fX5_shift_b49_e, fX5_shift_b38_e, fX5_shift_b24_e, fX5_shift_b19_e, fX5_shift_e, fX5_stepOn_b200_e, fX5_stepOn_b300_e, fX5_stepOn_e, fX5_step_b218_e, fX5_step_b258_e, fX5_step_b239_e, fX5_step_b307_e, fX5_step_b278_e, fX5_step_b406_e, fX5_step_b361_e, fX5_step_b421_e, fX5_step_e, setFlags_c, gM_memory_t, sM_memory_t, gM_reg_t, sM_reg_t, gM_given_t, sM_given_t, gM_counts_t, sM_counts_t, gM_kind_t, sM_kind_t, gM_bytes_t, sM_bytes_t, gM_isOver_t, sM_isOver_t, j0, j1, j2, j3, j4, j5, j6, j7, j8, j9, j10, j11, j12, p10_0, p10_1, p10_2, p10_3, p10_4, p10_5, p10_6, p10_7, p10_8, p10_9, p12_0, p12_1, p12_2, p12_3, p12_4, p12_5, p12_6, p12_7, p12_8, p12_9, p12_10, p12_11, hl, hr, hm, hn2, c0, c4, g0, g4, q1, q2, q3, c1, c2, g1, g2, u0, u1, u2, u4, u5, u6, u7, k10, if_true, if_false, ne_1_0, ne_24_0, ne_24_1, ne_24_2, ne_24_3, ne_24_4, ne_24_5, ne_24_6, ne_24_7, ne_24_8, ne_24_9, ne_24_10, ne_24_11, ne_24_12, ne_24_13, ne_24_14, ne_24_15, ne_24_16, ne_24_17, ne_24_18, ne_24_19, ne_24_20, ne_24_21, ne_24_22, ne_24_23, ne_24_25, ne_24_26, ne_24_27, ne_24_28, ne_24_29, hspe, g3, c3, pk_us, hw]
set_option maxRecDepth 20000 in
theorem sp_26 {mem reg inp rq gvn size len pages which exA exT cnt ks : Nat → Int32} {rf im rm lr room trn kd by_ fm fs fp fd lb ov : Int32} {a b n d s : Nat} (ha : a < 256) (hb : b < 256) (hn : n < 256) (hr : reg 9 = nI a) (hm : mem a = nI b) (hn2 : mem ((a + 1) % 256) = nI n) (hk : kM b = 26) (hB : bytB b = 1) (hde : b / 4 % 4 = d) (hse : b % 4 = s) {sp : Nat} (hsp : sp < 256) (hspe : (reg 4 - 1) &&& 255 = nI sp) {mem' size' cnt' : Nat → Int32} (hw : fX5_write (rf, mem, (upd (upd reg 9 (nI ((a + 1) % 256))) 4 (nI sp)), inp, im, rq, rm, lr, gvn, size, len, pages, which, exA, exT, room, trn, (upd cnt 0 (cnt 0 + 1)), 26, 1, fm, fs, fp, fd, ks, lb, ov) (nI sp) (reg d) = some (rf, mem', (upd (upd reg 9 (nI ((a + 1) % 256))) 4 (nI sp)), inp, im, rq, rm, lr, gvn, size', len, pages, which, exA, exT, room, trn, cnt', 26, 1, fm, fs, fp, fd, ks, lb, ov)) :
    fX5_step (rf, mem, reg, inp, im, rq, rm, lr, gvn, size, len, pages, which, exA, exT, room, trn, cnt, kd, by_, fm, fs, fp, fd, ks, lb, ov) = some (rf, mem', (upd (upd reg 9 (nI ((a + 1) % 256))) 4 (nI sp)), inp, im, rq, rm, lr, gvn, size', len, pages, which, exA, exT, room, trn, cnt', 26, 1, fm, fs, fp, fd, ks, lb, ov) := by
  have hl : fX5_look (rf, mem, reg, inp, im, rq, rm, lr, gvn, size, len, pages, which, exA, exT, room, trn, cnt, kd, by_, fm, fs, fp, fd, ks, lb, ov) (nI a) = some (rf, mem, reg, inp, im, rq, rm, lr, gvn, size, len, pages, which, exA, exT, room, trn, cnt, 26, 1, fm, fs, fp, fd, ks, lb, ov) := by
    rw [look_e ha hb (show gM_memory (rf, mem, reg, inp, im, rq, rm, lr, gvn, size, len, pages, which, exA, exT, room, trn, cnt, kd, by_, fm, fs, fp, fd, ks, lb, ov) a = nI b from hm), hk, hB]
    rfl
  have c0 : (nI a).toNatClampNeg = a := cl_n (by omega)
  have c4 : (nI ((a + 1) % 256)).toNatClampNeg = (a + 1) % 256 := cl_n (by omega)
  have g0 : ∀ {β : Type} (k : Option β), pIn (nI a) 256 k = k := fun k => pIn_n (by omega) (by omega)
  have g4 : ∀ {β : Type} (k : Option β), pIn (nI ((a + 1) % 256)) 256 k = k := fun k => pIn_n (by omega) (by omega)
  have q1 : (nI a + 1) &&& 255 = nI ((a + 1) % 256) := by rw [nI_1, and255 (by omega)]
  have q2 : (nI b >>> ((2 : Int32) &&& 31)) &&& 3 = nI d := by rw [pk_shrN (by omega) _ 2 rfl, pk_andN (by omega) 2 rfl, ← hde]
  have q3 : nI b &&& 3 = nI s := by rw [pk_andN (by omega) 2 rfl, ← hse]
  have hd : d < 4 := by omega
  have hs : s < 4 := by omega
  have c1 : (nI d).toNatClampNeg = d := cl_n (by omega)
  have c2 : (nI s).toNatClampNeg = s := cl_n (by omega)
  have g1 : ∀ {β : Type} (k : Option β), pIn (nI d) 10 k = k := fun k => pIn_n (by omega) (by omega)
  have g2 : ∀ {β : Type} (k : Option β), pIn (nI s) 10 k = k := fun k => pIn_n (by omega) (by omega)
  have u1 : ∀ x : Int32, upd reg 9 x d = reg d := fun x => pk_un (by omega)
  have u2 : ∀ x : Int32, upd reg 9 x s = reg s := fun x => pk_un (by omega)
  have u6 : ∀ x : Int32, upd reg 9 x 6 = reg 6 := fun x => pk_un (by omega)
  have u0 : ∀ x : Int32, upd reg 9 x 0 = reg 0 := fun x => pk_un (by omega)
  have u4 : ∀ x : Int32, upd reg 9 x 4 = reg 4 := fun x => pk_un (by omega)
  have u5 : ∀ x : Int32, upd reg 9 x 5 = reg 5 := fun x => pk_un (by omega)
  have u7 : ∀ x : Int32, upd reg 9 x 7 = reg 7 := fun x => pk_un (by omega)
  have k10 : ∀ x : Int32, upd cnt 0 x 10 = cnt 10 := fun x => pk_un (by omega)
  have g3 : ∀ {β : Type} (k : Option β), pIn (nI sp) 256 k = k := fun k => pIn_n (by omega) (by omega)
  have c3 : (nI sp).toNatClampNeg = sp := cl_n (by omega)
  simp only [-Int32.reduceToNatClampNeg, pLet_e, pB_e2, fX5_push_e, fX5_pop_e, fX5_goes_b79_e, fX5_goes_b67_e, fX5_goes_e, fX5_add_e, fX5_shift_b98_e, fX5_shift_b78_e, fX5_shift_b49_e, fX5_shift_b38_e, fX5_shift_b24_e, fX5_shift_b19_e, fX5_shift_e, fX5_stepOn_b200_e, fX5_stepOn_b300_e, fX5_stepOn_e, fX5_step_b218_e, fX5_step_b258_e, fX5_step_b239_e, fX5_step_b307_e, fX5_step_b278_e, fX5_step_b406_e, fX5_step_b361_e, fX5_step_b421_e, fX5_step_e, setFlags_c, gM_memory_t, sM_memory_t, gM_reg_t, sM_reg_t, gM_given_t, sM_given_t, gM_counts_t, sM_counts_t, gM_kind_t, sM_kind_t, gM_bytes_t, sM_bytes_t, gM_isOver_t, sM_isOver_t, j0, j1, j2, j3, j4, j5, j6, j7, j8, j9, j10, j11, j12, p10_0, p10_1, p10_2, p10_3, p10_4, p10_5, p10_6, p10_7, p10_8, p10_9, p12_0, p12_1, p12_2, p12_3, p12_4, p12_5, p12_6, p12_7, p12_8, p12_9, p12_10, p12_11, hl, hr, hm, hn2, c0, c4, g0, g4, q1, q2, q3, c1, c2, g1, g2, u0, u1, u2, u4, u5, u6, u7, k10, if_true, if_false, ne_1_0, ne_26_0, ne_26_1, ne_26_2, ne_26_3, ne_26_4, ne_26_5, ne_26_6, ne_26_7, ne_26_8, ne_26_9, ne_26_10, ne_26_11, ne_26_12, ne_26_13, ne_26_14, ne_26_15, ne_26_16, ne_26_17, ne_26_18, ne_26_19, ne_26_20, ne_26_21, ne_26_22, ne_26_23, ne_26_24, ne_26_25, ne_26_27, ne_26_28, ne_26_29, hspe, g3, c3, pk_us, hw]
set_option maxRecDepth 20000 in
theorem sp_25 {mem reg inp rq gvn size len pages which exA exT cnt ks : Nat → Int32} {rf im rm lr room trn kd by_ fm fs fp fd lb ov : Int32} {a b n d s : Nat} (ha : a < 256) (hb : b < 256) (hn : n < 256) (hr : reg 9 = nI a) (hm : mem a = nI b) (hn2 : mem ((a + 1) % 256) = nI n) (hk : kM b = 25) (hB : bytB b = 1) (hde : b / 4 % 4 = d) (hse : b % 4 = s) {sp : Nat} (hsp : sp < 256) (hspe : reg 4 = nI sp) :
    fX5_step (rf, mem, reg, inp, im, rq, rm, lr, gvn, size, len, pages, which, exA, exT, room, trn, cnt, kd, by_, fm, fs, fp, fd, ks, lb, ov) = some (rf, mem, (upd (upd (upd reg 9 (nI ((a + 1) % 256))) 4 ((nI sp + 1) &&& 255)) 9 (mem sp)), inp, im, rq, rm, lr, gvn, size, len, pages, which, exA, exT, room, trn, (upd cnt 0 (cnt 0 + 1)), 25, 1, fm, fs, fp, fd, ks, lb, ov) := by
  have hl : fX5_look (rf, mem, reg, inp, im, rq, rm, lr, gvn, size, len, pages, which, exA, exT, room, trn, cnt, kd, by_, fm, fs, fp, fd, ks, lb, ov) (nI a) = some (rf, mem, reg, inp, im, rq, rm, lr, gvn, size, len, pages, which, exA, exT, room, trn, cnt, 25, 1, fm, fs, fp, fd, ks, lb, ov) := by
    rw [look_e ha hb (show gM_memory (rf, mem, reg, inp, im, rq, rm, lr, gvn, size, len, pages, which, exA, exT, room, trn, cnt, kd, by_, fm, fs, fp, fd, ks, lb, ov) a = nI b from hm), hk, hB]
    rfl
  have c0 : (nI a).toNatClampNeg = a := cl_n (by omega)
  have c4 : (nI ((a + 1) % 256)).toNatClampNeg = (a + 1) % 256 := cl_n (by omega)
  have g0 : ∀ {β : Type} (k : Option β), pIn (nI a) 256 k = k := fun k => pIn_n (by omega) (by omega)
  have g4 : ∀ {β : Type} (k : Option β), pIn (nI ((a + 1) % 256)) 256 k = k := fun k => pIn_n (by omega) (by omega)
  have q1 : (nI a + 1) &&& 255 = nI ((a + 1) % 256) := by rw [nI_1, and255 (by omega)]
  have q2 : (nI b >>> ((2 : Int32) &&& 31)) &&& 3 = nI d := by rw [pk_shrN (by omega) _ 2 rfl, pk_andN (by omega) 2 rfl, ← hde]
  have q3 : nI b &&& 3 = nI s := by rw [pk_andN (by omega) 2 rfl, ← hse]
  have hd : d < 4 := by omega
  have hs : s < 4 := by omega
  have c1 : (nI d).toNatClampNeg = d := cl_n (by omega)
  have c2 : (nI s).toNatClampNeg = s := cl_n (by omega)
  have g1 : ∀ {β : Type} (k : Option β), pIn (nI d) 10 k = k := fun k => pIn_n (by omega) (by omega)
  have g2 : ∀ {β : Type} (k : Option β), pIn (nI s) 10 k = k := fun k => pIn_n (by omega) (by omega)
  have u1 : ∀ x : Int32, upd reg 9 x d = reg d := fun x => pk_un (by omega)
  have u2 : ∀ x : Int32, upd reg 9 x s = reg s := fun x => pk_un (by omega)
  have u6 : ∀ x : Int32, upd reg 9 x 6 = reg 6 := fun x => pk_un (by omega)
  have u0 : ∀ x : Int32, upd reg 9 x 0 = reg 0 := fun x => pk_un (by omega)
  have u4 : ∀ x : Int32, upd reg 9 x 4 = reg 4 := fun x => pk_un (by omega)
  have u5 : ∀ x : Int32, upd reg 9 x 5 = reg 5 := fun x => pk_un (by omega)
  have u7 : ∀ x : Int32, upd reg 9 x 7 = reg 7 := fun x => pk_un (by omega)
  have k10 : ∀ x : Int32, upd cnt 0 x 10 = cnt 10 := fun x => pk_un (by omega)
  have g3 : ∀ {β : Type} (k : Option β), pIn (nI sp) 256 k = k := fun k => pIn_n (by omega) (by omega)
  have c3 : (nI sp).toNatClampNeg = sp := cl_n (by omega)
  simp only [-Int32.reduceToNatClampNeg, pLet_e, pB_e2, fX5_push_e, fX5_pop_e, fX5_goes_b79_e, fX5_goes_b67_e, fX5_goes_e, fX5_add_e, fX5_shift_b98_e, fX5_shift_b78_e, fX5_shift_b49_e, fX5_shift_b38_e, fX5_shift_b24_e, fX5_shift_b19_e, fX5_shift_e, fX5_stepOn_b200_e, fX5_stepOn_b300_e, fX5_stepOn_e, fX5_step_b218_e, fX5_step_b258_e, fX5_step_b239_e, fX5_step_b307_e, fX5_step_b278_e, fX5_step_b406_e, fX5_step_b361_e, fX5_step_b421_e, fX5_step_e, setFlags_c, gM_memory_t, sM_memory_t, gM_reg_t, sM_reg_t, gM_given_t, sM_given_t, gM_counts_t, sM_counts_t, gM_kind_t, sM_kind_t, gM_bytes_t, sM_bytes_t, gM_isOver_t, sM_isOver_t, j0, j1, j2, j3, j4, j5, j6, j7, j8, j9, j10, j11, j12, p10_0, p10_1, p10_2, p10_3, p10_4, p10_5, p10_6, p10_7, p10_8, p10_9, p12_0, p12_1, p12_2, p12_3, p12_4, p12_5, p12_6, p12_7, p12_8, p12_9, p12_10, p12_11, hl, hr, hm, hn2, c0, c4, g0, g4, q1, q2, q3, c1, c2, g1, g2, u0, u1, u2, u4, u5, u6, u7, k10, if_true, if_false, ne_1_0, ne_25_0, ne_25_1, ne_25_2, ne_25_3, ne_25_4, ne_25_5, ne_25_6, ne_25_7, ne_25_8, ne_25_9, ne_25_10, ne_25_11, ne_25_12, ne_25_13, ne_25_14, ne_25_15, ne_25_16, ne_25_17, ne_25_18, ne_25_19, ne_25_20, ne_25_21, ne_25_22, ne_25_23, ne_25_24, ne_25_26, ne_25_27, ne_25_28, ne_25_29, hspe, g3, c3, pk_us]
set_option maxRecDepth 20000 in
theorem sp_27 {mem reg inp rq gvn size len pages which exA exT cnt ks : Nat → Int32} {rf im rm lr room trn kd by_ fm fs fp fd lb ov : Int32} {a b n d s : Nat} (ha : a < 256) (hb : b < 256) (hn : n < 256) (hr : reg 9 = nI a) (hm : mem a = nI b) (hn2 : mem ((a + 1) % 256) = nI n) (hk : kM b = 27) (hB : bytB b = 1) (hde : b / 4 % 4 = d) (hse : b % 4 = s) {sp : Nat} (hsp : sp < 256) (hspe : reg 4 = nI sp) :
    fX5_step (rf, mem, reg, inp, im, rq, rm, lr, gvn, size, len, pages, which, exA, exT, room, trn, cnt, kd, by_, fm, fs, fp, fd, ks, lb, ov) = some (rf, mem, (upd (upd (upd reg 9 (nI ((a + 1) % 256))) 4 ((nI sp + 1) &&& 255)) d (mem sp)), inp, im, rq, rm, lr, gvn, size, len, pages, which, exA, exT, room, trn, (upd cnt 0 (cnt 0 + 1)), 27, 1, fm, fs, fp, fd, ks, lb, ov) := by
  have hl : fX5_look (rf, mem, reg, inp, im, rq, rm, lr, gvn, size, len, pages, which, exA, exT, room, trn, cnt, kd, by_, fm, fs, fp, fd, ks, lb, ov) (nI a) = some (rf, mem, reg, inp, im, rq, rm, lr, gvn, size, len, pages, which, exA, exT, room, trn, cnt, 27, 1, fm, fs, fp, fd, ks, lb, ov) := by
    rw [look_e ha hb (show gM_memory (rf, mem, reg, inp, im, rq, rm, lr, gvn, size, len, pages, which, exA, exT, room, trn, cnt, kd, by_, fm, fs, fp, fd, ks, lb, ov) a = nI b from hm), hk, hB]
    rfl
  have c0 : (nI a).toNatClampNeg = a := cl_n (by omega)
  have c4 : (nI ((a + 1) % 256)).toNatClampNeg = (a + 1) % 256 := cl_n (by omega)
  have g0 : ∀ {β : Type} (k : Option β), pIn (nI a) 256 k = k := fun k => pIn_n (by omega) (by omega)
  have g4 : ∀ {β : Type} (k : Option β), pIn (nI ((a + 1) % 256)) 256 k = k := fun k => pIn_n (by omega) (by omega)
  have q1 : (nI a + 1) &&& 255 = nI ((a + 1) % 256) := by rw [nI_1, and255 (by omega)]
  have q2 : (nI b >>> ((2 : Int32) &&& 31)) &&& 3 = nI d := by rw [pk_shrN (by omega) _ 2 rfl, pk_andN (by omega) 2 rfl, ← hde]
  have q3 : nI b &&& 3 = nI s := by rw [pk_andN (by omega) 2 rfl, ← hse]
  have hd : d < 4 := by omega
  have hs : s < 4 := by omega
  have c1 : (nI d).toNatClampNeg = d := cl_n (by omega)
  have c2 : (nI s).toNatClampNeg = s := cl_n (by omega)
  have g1 : ∀ {β : Type} (k : Option β), pIn (nI d) 10 k = k := fun k => pIn_n (by omega) (by omega)
  have g2 : ∀ {β : Type} (k : Option β), pIn (nI s) 10 k = k := fun k => pIn_n (by omega) (by omega)
  have u1 : ∀ x : Int32, upd reg 9 x d = reg d := fun x => pk_un (by omega)
  have u2 : ∀ x : Int32, upd reg 9 x s = reg s := fun x => pk_un (by omega)
  have u6 : ∀ x : Int32, upd reg 9 x 6 = reg 6 := fun x => pk_un (by omega)
  have u0 : ∀ x : Int32, upd reg 9 x 0 = reg 0 := fun x => pk_un (by omega)
  have u4 : ∀ x : Int32, upd reg 9 x 4 = reg 4 := fun x => pk_un (by omega)
  have u5 : ∀ x : Int32, upd reg 9 x 5 = reg 5 := fun x => pk_un (by omega)
  have u7 : ∀ x : Int32, upd reg 9 x 7 = reg 7 := fun x => pk_un (by omega)
  have k10 : ∀ x : Int32, upd cnt 0 x 10 = cnt 10 := fun x => pk_un (by omega)
  have g3 : ∀ {β : Type} (k : Option β), pIn (nI sp) 256 k = k := fun k => pIn_n (by omega) (by omega)
  have c3 : (nI sp).toNatClampNeg = sp := cl_n (by omega)
  simp only [-Int32.reduceToNatClampNeg, pLet_e, pB_e2, fX5_push_e, fX5_pop_e, fX5_goes_b79_e, fX5_goes_b67_e, fX5_goes_e, fX5_add_e, fX5_shift_b98_e, fX5_shift_b78_e, fX5_shift_b49_e, fX5_shift_b38_e, fX5_shift_b24_e, fX5_shift_b19_e, fX5_shift_e, fX5_stepOn_b200_e, fX5_stepOn_b300_e, fX5_stepOn_e, fX5_step_b218_e, fX5_step_b258_e, fX5_step_b239_e, fX5_step_b307_e, fX5_step_b278_e, fX5_step_b406_e, fX5_step_b361_e, fX5_step_b421_e, fX5_step_e, setFlags_c, gM_memory_t, sM_memory_t, gM_reg_t, sM_reg_t, gM_given_t, sM_given_t, gM_counts_t, sM_counts_t, gM_kind_t, sM_kind_t, gM_bytes_t, sM_bytes_t, gM_isOver_t, sM_isOver_t, j0, j1, j2, j3, j4, j5, j6, j7, j8, j9, j10, j11, j12, p10_0, p10_1, p10_2, p10_3, p10_4, p10_5, p10_6, p10_7, p10_8, p10_9, p12_0, p12_1, p12_2, p12_3, p12_4, p12_5, p12_6, p12_7, p12_8, p12_9, p12_10, p12_11, hl, hr, hm, hn2, c0, c4, g0, g4, q1, q2, q3, c1, c2, g1, g2, u0, u1, u2, u4, u5, u6, u7, k10, if_true, if_false, ne_1_0, ne_27_0, ne_27_1, ne_27_2, ne_27_3, ne_27_4, ne_27_5, ne_27_6, ne_27_7, ne_27_8, ne_27_9, ne_27_10, ne_27_11, ne_27_12, ne_27_13, ne_27_14, ne_27_15, ne_27_16, ne_27_17, ne_27_18, ne_27_19, ne_27_20, ne_27_21, ne_27_22, ne_27_23, ne_27_24, ne_27_25, ne_27_26, ne_27_28, ne_27_29, hspe, g3, c3, pk_us]
set_option maxRecDepth 20000 in
theorem sp_28t {mem reg inp rq gvn size len pages which exA exT cnt ks : Nat → Int32} {rf im rm lr room trn kd by_ fm fs fp fd lb ov : Int32} {a b n d s : Nat} (ha : a < 256) (hb : b < 256) (hn : n < 256) (hr : reg 9 = nI a) (hm : mem a = nI b) (hn2 : mem ((a + 1) % 256) = nI n) (hk : kM b = 28) (hB : bytB b = 2) (hde : b / 4 % 4 = d) (hse : b % 4 = s) (hz : ¬ (reg d - 1) &&& 255 = 0) :
    fX5_step (rf, mem, reg, inp, im, rq, rm, lr, gvn, size, len, pages, which, exA, exT, room, trn, cnt, kd, by_, fm, fs, fp, fd, ks, lb, ov) = some (rf, mem, (upd (upd (upd reg 9 ((nI a + 2) &&& 255)) d ((reg d - 1) &&& 255)) 9 (nI n)), inp, im, rq, rm, lr, gvn, size, len, pages, which, exA, exT, room, trn, (upd cnt 0 (cnt 0 + 1)), 28, 2, fm, fs, fp, fd, ks, lb, ov) := by
  have hl : fX5_look (rf, mem, reg, inp, im, rq, rm, lr, gvn, size, len, pages, which, exA, exT, room, trn, cnt, kd, by_, fm, fs, fp, fd, ks, lb, ov) (nI a) = some (rf, mem, reg, inp, im, rq, rm, lr, gvn, size, len, pages, which, exA, exT, room, trn, cnt, 28, 2, fm, fs, fp, fd, ks, lb, ov) := by
    rw [look_e ha hb (show gM_memory (rf, mem, reg, inp, im, rq, rm, lr, gvn, size, len, pages, which, exA, exT, room, trn, cnt, kd, by_, fm, fs, fp, fd, ks, lb, ov) a = nI b from hm), hk, hB]
    rfl
  have c0 : (nI a).toNatClampNeg = a := cl_n (by omega)
  have c4 : (nI ((a + 1) % 256)).toNatClampNeg = (a + 1) % 256 := cl_n (by omega)
  have g0 : ∀ {β : Type} (k : Option β), pIn (nI a) 256 k = k := fun k => pIn_n (by omega) (by omega)
  have g4 : ∀ {β : Type} (k : Option β), pIn (nI ((a + 1) % 256)) 256 k = k := fun k => pIn_n (by omega) (by omega)
  have q1 : (nI a + 1) &&& 255 = nI ((a + 1) % 256) := by rw [nI_1, and255 (by omega)]
  have q2 : (nI b >>> ((2 : Int32) &&& 31)) &&& 3 = nI d := by rw [pk_shrN (by omega) _ 2 rfl, pk_andN (by omega) 2 rfl, ← hde]
  have q3 : nI b &&& 3 = nI s := by rw [pk_andN (by omega) 2 rfl, ← hse]
  have hd : d < 4 := by omega
  have hs : s < 4 := by omega
  have c1 : (nI d).toNatClampNeg = d := cl_n (by omega)
  have c2 : (nI s).toNatClampNeg = s := cl_n (by omega)
  have g1 : ∀ {β : Type} (k : Option β), pIn (nI d) 10 k = k := fun k => pIn_n (by omega) (by omega)
  have g2 : ∀ {β : Type} (k : Option β), pIn (nI s) 10 k = k := fun k => pIn_n (by omega) (by omega)
  have u1 : ∀ x : Int32, upd reg 9 x d = reg d := fun x => pk_un (by omega)
  have u2 : ∀ x : Int32, upd reg 9 x s = reg s := fun x => pk_un (by omega)
  have u6 : ∀ x : Int32, upd reg 9 x 6 = reg 6 := fun x => pk_un (by omega)
  have u0 : ∀ x : Int32, upd reg 9 x 0 = reg 0 := fun x => pk_un (by omega)
  have u4 : ∀ x : Int32, upd reg 9 x 4 = reg 4 := fun x => pk_un (by omega)
  have u5 : ∀ x : Int32, upd reg 9 x 5 = reg 5 := fun x => pk_un (by omega)
  have u7 : ∀ x : Int32, upd reg 9 x 7 = reg 7 := fun x => pk_un (by omega)
  have k10 : ∀ x : Int32, upd cnt 0 x 10 = cnt 10 := fun x => pk_un (by omega)
  simp only [-Int32.reduceToNatClampNeg, pLet_e, pB_e2, fX5_push_e, fX5_pop_e, fX5_goes_b79_e, fX5_goes_b67_e, fX5_goes_e, fX5_add_e, fX5_shift_b98_e, fX5_shift_b78_e, fX5_shift_b49_e, fX5_shift_b38_e, fX5_shift_b24_e, fX5_shift_b19_e, fX5_shift_e, fX5_stepOn_b200_e, fX5_stepOn_b300_e, fX5_stepOn_e, fX5_step_b218_e, fX5_step_b258_e, fX5_step_b239_e, fX5_step_b307_e, fX5_step_b278_e, fX5_step_b406_e, fX5_step_b361_e, fX5_step_b421_e, fX5_step_e, setFlags_c, gM_memory_t, sM_memory_t, gM_reg_t, sM_reg_t, gM_given_t, sM_given_t, gM_counts_t, sM_counts_t, gM_kind_t, sM_kind_t, gM_bytes_t, sM_bytes_t, gM_isOver_t, sM_isOver_t, j0, j1, j2, j3, j4, j5, j6, j7, j8, j9, j10, j11, j12, p10_0, p10_1, p10_2, p10_3, p10_4, p10_5, p10_6, p10_7, p10_8, p10_9, p12_0, p12_1, p12_2, p12_3, p12_4, p12_5, p12_6, p12_7, p12_8, p12_9, p12_10, p12_11, hl, hr, hm, hn2, c0, c4, g0, g4, q1, q2, q3, c1, c2, g1, g2, u0, u1, u2, u4, u5, u6, u7, k10, if_true, if_false, ne_1_0, ne_28_0, ne_28_1, ne_28_2, ne_28_3, ne_28_4, ne_28_5, ne_28_6, ne_28_7, ne_28_8, ne_28_9, ne_28_10, ne_28_11, ne_28_12, ne_28_13, ne_28_14, ne_28_15, ne_28_16, ne_28_17, ne_28_18, ne_28_19, ne_28_20, ne_28_21, ne_28_22, ne_28_23, ne_28_24, ne_28_25, ne_28_26, ne_28_27, ne_28_29, pk_us, hz]
set_option maxRecDepth 20000 in
theorem sp_28f {mem reg inp rq gvn size len pages which exA exT cnt ks : Nat → Int32} {rf im rm lr room trn kd by_ fm fs fp fd lb ov : Int32} {a b n d s : Nat} (ha : a < 256) (hb : b < 256) (hn : n < 256) (hr : reg 9 = nI a) (hm : mem a = nI b) (hn2 : mem ((a + 1) % 256) = nI n) (hk : kM b = 28) (hB : bytB b = 2) (hde : b / 4 % 4 = d) (hse : b % 4 = s) (hz : (reg d - 1) &&& 255 = 0) :
    fX5_step (rf, mem, reg, inp, im, rq, rm, lr, gvn, size, len, pages, which, exA, exT, room, trn, cnt, kd, by_, fm, fs, fp, fd, ks, lb, ov) = some (rf, mem, (upd (upd (upd reg 9 ((nI a + 2) &&& 255)) d ((reg d - 1) &&& 255)) 9 ((nI a + 2) &&& 255)), inp, im, rq, rm, lr, gvn, size, len, pages, which, exA, exT, room, trn, (upd cnt 0 (cnt 0 + 1)), 28, 2, fm, fs, fp, fd, ks, lb, ov) := by
  have hl : fX5_look (rf, mem, reg, inp, im, rq, rm, lr, gvn, size, len, pages, which, exA, exT, room, trn, cnt, kd, by_, fm, fs, fp, fd, ks, lb, ov) (nI a) = some (rf, mem, reg, inp, im, rq, rm, lr, gvn, size, len, pages, which, exA, exT, room, trn, cnt, 28, 2, fm, fs, fp, fd, ks, lb, ov) := by
    rw [look_e ha hb (show gM_memory (rf, mem, reg, inp, im, rq, rm, lr, gvn, size, len, pages, which, exA, exT, room, trn, cnt, kd, by_, fm, fs, fp, fd, ks, lb, ov) a = nI b from hm), hk, hB]
    rfl
  have c0 : (nI a).toNatClampNeg = a := cl_n (by omega)
  have c4 : (nI ((a + 1) % 256)).toNatClampNeg = (a + 1) % 256 := cl_n (by omega)
  have g0 : ∀ {β : Type} (k : Option β), pIn (nI a) 256 k = k := fun k => pIn_n (by omega) (by omega)
  have g4 : ∀ {β : Type} (k : Option β), pIn (nI ((a + 1) % 256)) 256 k = k := fun k => pIn_n (by omega) (by omega)
  have q1 : (nI a + 1) &&& 255 = nI ((a + 1) % 256) := by rw [nI_1, and255 (by omega)]
  have q2 : (nI b >>> ((2 : Int32) &&& 31)) &&& 3 = nI d := by rw [pk_shrN (by omega) _ 2 rfl, pk_andN (by omega) 2 rfl, ← hde]
  have q3 : nI b &&& 3 = nI s := by rw [pk_andN (by omega) 2 rfl, ← hse]
  have hd : d < 4 := by omega
  have hs : s < 4 := by omega
  have c1 : (nI d).toNatClampNeg = d := cl_n (by omega)
  have c2 : (nI s).toNatClampNeg = s := cl_n (by omega)
  have g1 : ∀ {β : Type} (k : Option β), pIn (nI d) 10 k = k := fun k => pIn_n (by omega) (by omega)
  have g2 : ∀ {β : Type} (k : Option β), pIn (nI s) 10 k = k := fun k => pIn_n (by omega) (by omega)
  have u1 : ∀ x : Int32, upd reg 9 x d = reg d := fun x => pk_un (by omega)
  have u2 : ∀ x : Int32, upd reg 9 x s = reg s := fun x => pk_un (by omega)
  have u6 : ∀ x : Int32, upd reg 9 x 6 = reg 6 := fun x => pk_un (by omega)
  have u0 : ∀ x : Int32, upd reg 9 x 0 = reg 0 := fun x => pk_un (by omega)
  have u4 : ∀ x : Int32, upd reg 9 x 4 = reg 4 := fun x => pk_un (by omega)
  have u5 : ∀ x : Int32, upd reg 9 x 5 = reg 5 := fun x => pk_un (by omega)
  have u7 : ∀ x : Int32, upd reg 9 x 7 = reg 7 := fun x => pk_un (by omega)
  have k10 : ∀ x : Int32, upd cnt 0 x 10 = cnt 10 := fun x => pk_un (by omega)
  simp only [-Int32.reduceToNatClampNeg, pLet_e, pB_e2, fX5_push_e, fX5_pop_e, fX5_goes_b79_e, fX5_goes_b67_e, fX5_goes_e, fX5_add_e, fX5_shift_b98_e, fX5_shift_b78_e, fX5_shift_b49_e, fX5_shift_b38_e, fX5_shift_b24_e, fX5_shift_b19_e, fX5_shift_e, fX5_stepOn_b200_e, fX5_stepOn_b300_e, fX5_stepOn_e, fX5_step_b218_e, fX5_step_b258_e, fX5_step_b239_e, fX5_step_b307_e, fX5_step_b278_e, fX5_step_b406_e, fX5_step_b361_e, fX5_step_b421_e, fX5_step_e, setFlags_c, gM_memory_t, sM_memory_t, gM_reg_t, sM_reg_t, gM_given_t, sM_given_t, gM_counts_t, sM_counts_t, gM_kind_t, sM_kind_t, gM_bytes_t, sM_bytes_t, gM_isOver_t, sM_isOver_t, j0, j1, j2, j3, j4, j5, j6, j7, j8, j9, j10, j11, j12, p10_0, p10_1, p10_2, p10_3, p10_4, p10_5, p10_6, p10_7, p10_8, p10_9, p12_0, p12_1, p12_2, p12_3, p12_4, p12_5, p12_6, p12_7, p12_8, p12_9, p12_10, p12_11, hl, hr, hm, hn2, c0, c4, g0, g4, q1, q2, q3, c1, c2, g1, g2, u0, u1, u2, u4, u5, u6, u7, k10, if_true, if_false, ne_1_0, ne_28_0, ne_28_1, ne_28_2, ne_28_3, ne_28_4, ne_28_5, ne_28_6, ne_28_7, ne_28_8, ne_28_9, ne_28_10, ne_28_11, ne_28_12, ne_28_13, ne_28_14, ne_28_15, ne_28_16, ne_28_17, ne_28_18, ne_28_19, ne_28_20, ne_28_21, ne_28_22, ne_28_23, ne_28_24, ne_28_25, ne_28_26, ne_28_27, ne_28_29, pk_us, hz]

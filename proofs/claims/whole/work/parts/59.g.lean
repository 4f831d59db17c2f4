/-! the calls that change the state -/
set_option maxRecDepth 20000 in
theorem poke_rs {mem reg inp rq gvn size len pages which exA exT cnt ks : Nat → Int32} {rf im rm lr room trn kd by_ fm fs fp fd lb ov : Int32} {st outs code lenC beh siz ser exP lnk : Nat → Int32} {iq rqq : TQ} {gv wr limit blocks filled trl fls dead lrq exe inv lku itp itr en ext : Int32} {e T : Nat} {ls : Nat → List (Nat × Nat)} (h : RS true e T ls ((st, mem, iq, outs, gv, wr), (code, lenC, beh, siz, ser, exP, lnk, limit, blocks, filled, trl, fls, dead), rqq, lrq, exe, inv, lku, itp, itr, en, ext) (rf, mem, reg, inp, im, rq, rm, lr, gvn, size, len, pages, which, exA, exT, room, trn, cnt, kd, by_, fm, fs, fp, fd, ks, lb, ov)) {ad : Nat} {v : Int32} (had : ad < 256) (hv : isB v) : RS true e T ls ((st, (upd mem ad v), iq, outs, gv, wr), (code, lenC, beh, siz, (dS ser beh (ad / 32)), exP, lnk, limit, (cn (dS ser beh (ad / 32))), (fl (dS ser beh (ad / 32)) siz), trl, fls, dead), rqq, lrq, exe, inv, lku, itp, itr, en, ext) (rf, (upd mem ad v), reg, inp, im, rq, rm, lr, gvn, (mS size pages (ad / 32)), len, pages, which, exA, exT, room, trn, (upd (upd cnt 1 (cnM (mS size pages (ad / 32)))) 2 (flM (mS size pages (ad / 32)))), kd, by_, fm, fs, fp, fd, ks, lb, ov) := by
  have x := h.out
  have hpb : ∀ p, p < 256 → PB mem code lenC beh siz ser exP lnk size len pages which exA exT (ls p) T p := x.pb_
  have hpb2 : ∀ p, p < 256 → PB (upd mem ad v) code lenC beh siz (dS ser beh (ad / 32)) exP lnk (mS size pages (ad / 32)) len pages which exA exT (ls p) T p := fun p hp => (hpb p hp).drop hp had
  have hmb : ∀ i, isB (upd mem ad v i) := by
    intro i
    by_cases q : i = ad
    · subst q; rw [pk_us]; exact hv
    · rw [pk_un q]; exact x.mb_ i
  have k1 : (upd (upd cnt 1 (cnM (mS size pages (ad / 32)))) 2 (flM (mS size pages (ad / 32)))) 1 = cnM (mS size pages (ad / 32)) := by rw [pk_un (by omega), pk_us]
  have k2 : (upd (upd cnt 1 (cnM (mS size pages (ad / 32)))) 2 (flM (mS size pages (ad / 32)))) 2 = flM (mS size pages (ad / 32)) := pk_us
  have ko : ∀ i, i ≠ 1 → i ≠ 2 → (upd (upd cnt 1 (cnM (mS size pages (ad / 32)))) 2 (flM (mS size pages (ad / 32)))) i = cnt i := by
    intro i a b
    rw [pk_un b, pk_un a]
  exact RX.in_ ⟨x.g_, x.bs_, x.br_, rfl, hmb, x.wr_, x.q_, x.qb_, x.o_, x.gv_, x.ee_, x.rq_, x.lr_, (ko 0 (by omega) (by omega)).trans x.c0_, k1, k2, (ko 3 (by omega) (by omega)).trans x.c3_, (ko 4 (by omega) (by omega)).trans x.c4_, (ko 5 (by omega) (by omega)).trans x.c5_, (ko 6 (by omega) (by omega)).trans x.c6_, (ko 7 (by omega) (by omega)).trans x.c7_, (ko 8 (by omega) (by omega)).trans x.c8_, (ko 9 (by omega) (by omega)).trans x.c9_, (ko 10 (by omega) (by omega)).trans x.c10_, (ko 11 (by omega) (by omega)).trans x.c11_, x.t1_, x.t2_, x.tb_, x.li_, rfl, rfl, hpb2, x.rf_⟩
theorem sh_ok (x : Int32) (i : Nat) (hi : i < 4) : ((x.toUInt32 >>> ((24 - 8 * nI i : Int32).toUInt32 &&& Int32.toUInt32 31)).toInt32 &&& 255) = ((x >>> ((24 - 8 * nI i : Int32) &&& 31)) &&& 255) := by
  have : i = 0 ∨ i = 1 ∨ i = 2 ∨ i = 3 := by omega
  rcases this with rfl | rfl | rfl | rfl
  · exact shr_eq x _ 24 (by omega) (by decide) (by decide)
  · exact shr_eq x _ 16 (by omega) (by decide) (by decide)
  · exact shr_eq x _ 8 (by omega) (by decide) (by decide)
  · exact shr_eq x _ 0 (by omega) (by decide) (by decide)
set_option maxRecDepth 20000 in
theorem poke_loop {e T a w : Nat} {ls : Nat → List (Nat × Nat)} {x2 : Int32} (ha : a < 256) (hw : w ≤ 4) : ∀ (n fuC fuM i : Nat) (B : TB) (M : TM), RS true e T ls B M → i + n = w → n < fuC → n < fuM →
    ∃ (B' : TB) (M' : TM), fX4_poke_b28 fuC B (nI a) x2 (nI w) (nI i) = some (0, B') ∧ fX5_poke_b36 fuM M (nI a) x2 (nI w) (nI i) = some M' ∧ RS true e T ls B' M' := by
  intro n
  induction n with
  | zero =>
    intro fuC fuM i B M h h1 h2 h3
    obtain ⟨fc, rfl⟩ : ∃ fc, fuC = fc + 1 := ⟨fuC - 1, by omega⟩
    obtain ⟨fm, rfl⟩ : ∃ fm, fuM = fm + 1 := ⟨fuM - 1, by omega⟩
    refine ⟨B, M, ?_, ?_, h⟩
    · rw [fX4_poke_b28, if_pos (nI_le (by omega) (by omega))]
    · rw [fX5_poke_b36, if_pos (nI_le (by omega) (by omega))]
  | succ n ih =>
    intro fuC fuM i B M h h1 h2 h3
    obtain ⟨fc, rfl⟩ : ∃ fc, fuC = fc + 1 := ⟨fuC - 1, by omega⟩
    obtain ⟨fm_, rfl⟩ : ∃ fm, fuM = fm + 1 := ⟨fuM - 1, by omega⟩
    obtain ⟨⟨st, mem, iq, outs, gv, wr⟩, ⟨code, lenC, beh, siz, ser, exP, lnk, limit, blocks, filled, trl, fls, dead⟩, rqq, lrq, exe, inv, lku, itp, itr, en, ext⟩ := B
    obtain ⟨rf, memM, reg, inp, im, rq, rm, lr, gvn, size, len, pages, which, exA, exT, room, trn, cnt, kd, by_, fm, fs, fp, fd, ks, lb, ov⟩ := M
    have hm : mem = memM := h.m
    subst hm
    have x := h.out
    obtain ⟨ad, had⟩ : ∃ ad, ad = (a + i) % 256 := ⟨_, rfl⟩
    have had2 : ad < 256 := by omega
    obtain ⟨v, hv⟩ : ∃ v, v = ((x2 >>> ((24 - 8 * nI i : Int32) &&& 31)) &&& 255) := ⟨_, rfl⟩
    have hvb : isB v := by rw [hv]; exact isB_and _
    have hC : fX4_poke_b28 (fc + 1) ((st, mem, iq, outs, gv, wr), (code, lenC, beh, siz, ser, exP, lnk, limit, blocks, filled, trl, fls, dead), rqq, lrq, exe, inv, lku, itp, itr, en, ext) (nI a) x2 (nI w) (nI i) = fX4_poke_b28 fc ((st, (upd mem ad v), iq, outs, gv, wr), (code, lenC, beh, siz, (dS ser beh (ad / 32)), exP, lnk, limit, (cn (dS ser beh (ad / 32))), (fl (dS ser beh (ad / 32)) siz), trl, fls, dead), rqq, lrq, exe, inv, lku, itp, itr, en, ext) (nI a) x2 (nI w) (nI (i + 1)) := by
      rw [fX4_poke_b28, if_neg (nI_ge (by omega) (by omega)), pLet_e, nI_add, and255 (by omega), ← had, pIn_n had2 (by omega), cl_n (by omega), sh_ok x2 i (by omega), ← hv, pLet_e, div32 (by omega)]
      have gc : gB_cache (sB_guest ((st, mem, iq, outs, gv, wr), (code, lenC, beh, siz, ser, exP, lnk, limit, blocks, filled, trl, fls, dead), rqq, lrq, exe, inv, lku, itp, itr, en, ext) (sG_memory (gB_guest ((st, mem, iq, outs, gv, wr), (code, lenC, beh, siz, ser, exP, lnk, limit, blocks, filled, trl, fls, dead), rqq, lrq, exe, inv, lku, itp, itr, en, ext)) (upd (gG_memory (gB_guest ((st, mem, iq, outs, gv, wr), (code, lenC, beh, siz, ser, exP, lnk, limit, blocks, filled, trl, fls, dead), rqq, lrq, exe, inv, lku, itp, itr, en, ext))) ad v))) = (code, lenC, beh, siz, ser, exP, lnk, limit, blocks, filled, trl, fls, dead) := rfl
      rw [gc, dropPage_e (g := ad / 32) (by omega) x.bl_ x.fi_ (fun p hp hs0 ht => ((x.pb_ p hp).of hs0).win hp (by omega) ht), pB_e2, pLet_e, pLet_e, nI_1]
      rfl
    have hM : fX5_poke_b36 (fm_ + 1) (rf, mem, reg, inp, im, rq, rm, lr, gvn, size, len, pages, which, exA, exT, room, trn, cnt, kd, by_, fm, fs, fp, fd, ks, lb, ov) (nI a) x2 (nI w) (nI i) = fX5_poke_b36 fm_ (rf, (upd mem ad v), reg, inp, im, rq, rm, lr, gvn, (mS size pages (ad / 32)), len, pages, which, exA, exT, room, trn, (upd (upd cnt 1 (cnM (mS size pages (ad / 32)))) 2 (flM (mS size pages (ad / 32)))), kd, by_, fm, fs, fp, fd, ks, lb, ov) (nI a) x2 (nI w) (nI (i + 1)) := by
      rw [fX5_poke_b36, if_neg (nI_ge (by omega) (by omega)), pLet_e, nI_add, and255 (by omega), ← had, pIn_n had2 (by omega), cl_n (by omega), ← hv, pLet_e, invalidate_e (v := sM_memory (rf, mem, reg, inp, im, rq, rm, lr, gvn, size, len, pages, which, exA, exT, room, trn, cnt, kd, by_, fm, fs, fp, fd, ks, lb, ov) (upd (gM_memory (rf, mem, reg, inp, im, rq, rm, lr, gvn, size, len, pages, which, exA, exT, room, trn, cnt, kd, by_, fm, fs, fp, fd, ks, lb, ov)) ad v)) had2 (M0 x.pb_ x.tb_) x.c1_ x.c2_, pB_e2, pLet_e, nI_1]
      rfl
    rw [hC, hM]
    exact ih fc fm_ (i + 1) _ _ (poke_rs h had2 hvb) (by omega) (by omega) (by omega)
theorem poke_ok {j : Nat} {B : TB} {M : TM} (h : ST j B M) (x1 x2 x3 : Int32) : okU (fL_poke B x1 x2 x3) (fX5_poke M x1 x2 x3) j := by
  have no : fX4_poke B x1 x2 x3 = fX4_poke_b17 B → fX5_poke M x1 x2 x3 = fX5_poke_b25 M x1 x2 x3 → okU (fL_poke B x1 x2 x3) (fX5_poke M x1 x2 x3) j := by
    intro a b
    refine ⟨1, B, sM_refusal M 1, ?_, ?_, rfl, h.rf⟩
    · rw [fL_poke, a, fX4_poke_b17_e, pB_e2, if_neg (show ¬ (1 : Int32) = 0 by decide), if_pos rfl]
    · rw [b, fX5_poke_b25_e, fX5_poke_b26_e, ref1, pLet_e, if_neg (show ¬ (1 : Int32) = 0 by decide)]
  rcases byt x1 with ⟨b1, b2, _⟩ | ⟨a, ha, rfl, b1, b2⟩
  · exact no (by rw [fX4_poke_e, b1, pLet_e, if_pos rfl]) (by rw [fX5_poke_e, b2, pLet_e, if_pos rfl])
  · by_cases i1 : x3 < 1
    · exact no (by rw [fX4_poke_e, b1, pLet_e, if_neg (show ¬ (1 : Int32) = 0 by decide), if_pos i1]) (by rw [fX5_poke_e, b2, pLet_e, if_neg (show ¬ (1 : Int32) = 0 by decide), fX5_isIn_e, if_pos i1, pLet_e, if_pos rfl])
    · by_cases i2 : 4 < x3
      · exact no (by rw [fX4_poke_e, b1, pLet_e, if_neg (show ¬ (1 : Int32) = 0 by decide), if_neg i1, if_neg (Int32.not_le.mpr i2)]) (by rw [fX5_poke_e, b2, pLet_e, if_neg (show ¬ (1 : Int32) = 0 by decide), fX5_isIn_e, if_neg i1, if_pos i2, pLet_e, if_pos rfl])
      · obtain ⟨w, w1, w2, rfl⟩ := bd (x := x3) (a := 1) (b := 4) (by omega) i1 i2 (by omega)
        obtain ⟨e, T, ls, h1, h2, h3⟩ := h
        have hfc : 20 < fuelX4_poke_28 := by unfold fuelX4_poke_28; omega
        have hfm : 20 < fuelX5_poke_36 := by unfold fuelX5_poke_36; omega
        obtain ⟨B', M', c1, c2, c3⟩ := poke_loop (x2 := x2) ha w2 w fuelX4_poke_28 fuelX5_poke_36 0 B (sM_refusal M 0) h1 (by omega) (by omega) (by omega)
        refine ⟨0, B', M', ?_, ?_, c3.rf, ST.of c3 (by omega) (by omega)⟩
        · rw [fL_poke, fX4_poke_e, b1, pLet_e, if_neg (show ¬ (1 : Int32) = 0 by decide), if_neg i1, if_pos (Int32.not_lt.mp i2), show (0 : Int32) = nI 0 from rfl, c1, pB_e2]
          rfl
        · rw [fX5_poke_e, b2, pLet_e, if_neg (show ¬ (1 : Int32) = 0 by decide), fX5_isIn_e, if_neg i1, if_neg i2, pLet_e, if_neg (show ¬ (1 : Int32) = 0 by decide), fX5_poke_b26_e, ref0, pLet_e, if_pos rfl]
          exact c2
set_option maxRecDepth 20000 in
theorem set_rs {mem reg inp rq gvn size len pages which exA exT cnt ks : Nat → Int32} {rf im rm lr room trn kd by_ fm fs fp fd lb ov : Int32} {st outs code lenC beh siz ser exP lnk : Nat → Int32} {iq rqq : TQ} {gv wr limit blocks filled trl fls dead lrq exe inv lku itp itr en ext : Int32} {e T : Nat} {ls : Nat → List (Nat × Nat)} (h : RS true e T ls ((st, mem, iq, outs, gv, wr), (code, lenC, beh, siz, ser, exP, lnk, limit, blocks, filled, trl, fls, dead), rqq, lrq, exe, inv, lku, itp, itr, en, ext) (rf, mem, reg, inp, im, rq, rm, lr, gvn, size, len, pages, which, exA, exT, room, trn, cnt, kd, by_, fm, fs, fp, fd, ks, lb, ov)) {i : Nat} {v : Int32} (hv : isB v) (hf : 5 ≤ i → i ≤ 8 → isF v) : RS true e T ls (((upd st i v), mem, iq, outs, gv, wr), (code, lenC, beh, siz, ser, exP, lnk, limit, blocks, filled, trl, fls, dead), rqq, lrq, exe, inv, lku, itp, itr, en, ext) (rf, mem, (upd reg i v), inp, im, rq, rm, lr, gvn, size, len, pages, which, exA, exT, room, trn, cnt, kd, by_, fm, fs, fp, fd, ks, lb, ov) := by
  have x := h.out
  have hG : st = reg := x.g_.2 rfl
  subst hG
  have hb := x.bs_
  have one : ∀ q : Nat, 5 ≤ q → q ≤ 8 → isF (st q) → isF (upd st i v q) := by
    intro q q1 q2 q3
    by_cases z : q = i
    · subst z; rw [pk_us]; exact hf q1 q2
    · rw [pk_un z]; exact q3
  have hbi : BI (upd st i v) := by
    refine ⟨fun q => ?_, one 5 (by omega) (by omega) hb.2.1, one 6 (by omega) (by omega) hb.2.2.1, one 7 (by omega) (by omega) hb.2.2.2.1, one 8 (by omega) (by omega) hb.2.2.2.2⟩
    by_cases z : q = i
    · subst z; rw [pk_us]; exact hv
    · rw [pk_un z]; exact hb.1 q
  exact RX.in_ ⟨⟨fun _ _ _ _ => rfl, fun _ => rfl⟩, hbi, hbi, x.m_, x.mb_, x.wr_, x.q_, x.qb_, x.o_, x.gv_, x.ee_, x.rq_, x.lr_, x.c0_, x.c1_, x.c2_, x.c3_, x.c4_, x.c5_, x.c6_, x.c7_, x.c8_, x.c9_, x.c10_, x.c11_, x.t1_, x.t2_, x.tb_, x.li_, x.bl_, x.fi_, x.pb_, x.rf_⟩
theorem set_ok {j : Nat} {B : TB} {M : TM} (h : ST j B M) (x1 x2 : Int32) : okU (fL_set B x1 x2) (fX5_set M x1 x2) j := by
  have no : fX4_set B x1 x2 = fX4_set_b26 B → fX5_set M x1 x2 = fX5_set_b40 M x1 x2 → okU (fL_set B x1 x2) (fX5_set M x1 x2) j := by
    intro a b
    refine ⟨1, B, sM_refusal M 1, ?_, ?_, rfl, h.rf⟩
    · rw [fL_set, a, fX4_set_b26_e, pB_e2, if_neg (show ¬ (1 : Int32) = 0 by decide), if_pos rfl]
    · rw [b, fX5_set_b40_e, fX5_set_b41_e, if_pos rfl, fX5_set_b52_e, ref1, pLet_e, if_neg (show ¬ (1 : Int32) = 0 by decide)]
  rcases sta x1 with ⟨b1, b2⟩ | ⟨a, ha, rfl, b1, b2⟩
  · exact no (by rw [fX4_set_e, b1, pLet_e, if_pos rfl]) (by rw [fX5_set_e, b2, pLet_e, if_pos rfl])
  · have yes : ∀ v : Nat, v < 256 → x2 = nI v → (5 ≤ a → a ≤ 8 → isF x2) → fX4_set B (nI a) x2 = fX4_set_b34 B (nI a) x2 → fX5_set M (nI a) x2 = fX5_set_b41 M (nI a) x2 1 → okU (fL_set B (nI a) x2) (fX5_set M (nI a) x2) j := by
      intro v hv hx hf p q
      obtain ⟨e, T, ls, h1, h2, h3⟩ := h
      obtain ⟨⟨st, mem, iq, outs, gv, wr⟩, ⟨code, lenC, beh, siz, ser, exP, lnk, limit, blocks, filled, trl, fls, dead⟩, rqq, lrq, exe, inv, lku, itp, itr, en, ext⟩ := B
      obtain ⟨rf, memM, reg, inp, im, rq, rm, lr, gvn, size, len, pages, which, exA, exT, room, trn, cnt, kd, by_, fm, fs, fp, fd, ks, lb, ov⟩ := M
      have hm : mem = memM := h1.m
      subst hm
      have h1 : RS true e T ls ((st, mem, iq, outs, gv, wr), (code, lenC, beh, siz, ser, exP, lnk, limit, blocks, filled, trl, fls, dead), rqq, lrq, exe, inv, lku, itp, itr, en, ext) (0, mem, reg, inp, im, rq, rm, lr, gvn, size, len, pages, which, exA, exT, room, trn, cnt, kd, by_, fm, fs, fp, fd, ks, lb, ov) := h1
      have r := set_rs (i := a) (v := x2) h1 ⟨v, hv, hx⟩ hf
      refine ⟨0, _, _, ?_, ?_, r.rf, ST.of r (by omega) (by omega)⟩
      · rw [fL_set, p, fX4_set_b34_e, pIn_n ha (by omega), cl_n (by omega), pLet_e, pB_e2, if_pos rfl]
        rfl
      · rw [q, fX5_set_b41_e, if_neg (show ¬ (1 : Int32) = 0 by decide), fX5_set_b52_e, ref0, pLet_e, if_pos rfl, pIn_n ha (by omega), cl_n (by omega), pLet_e]
        rfl
    have m5 : (5 : Int32) = nI 5 := rfl
    have m8 : (8 : Int32) = nI 8 := rfl
    rcases byt x2 with ⟨d1, d2, d3⟩ | ⟨v, hv, hx, d1, d2⟩
    · refine no (by rw [fX4_set_e, b1, pLet_e, if_neg (show ¬ (1 : Int32) = 0 by decide), d1, pLet_e, if_pos rfl]) ?_
      rw [fX5_set_e, b2, pLet_e, if_neg (show ¬ (1 : Int32) = 0 by decide)]
      by_cases q1 : nI a < 5
      · rw [if_pos q1, fX5_set_b27_e, fX5_set_b30_e, d2, pLet_e, if_pos rfl]
      · by_cases q2 : 8 < nI a
        · rw [if_neg q1, if_pos q2, fX5_set_b27_e, fX5_set_b30_e, d2, pLet_e, if_pos rfl]
        · rw [if_neg q1, if_neg q2, fX5_set_b30_e, fX5_isIn_e]
          rcases d3 with d3 | d3
          · rw [if_pos d3, pLet_e, if_pos rfl]
          · have d4 : ¬ x2 < 0 := fun z => absurd (Int32.lt_trans d3 z) (by decide)
            have d5 : 1 < x2 := Int32.lt_trans (show (1 : Int32) < 255 by decide) d3
            rw [if_neg d4, if_pos d5, pLet_e, if_pos rfl]
    · by_cases q1 : nI a < 5
      · refine yes v hv hx (fun z _ => ?_) ?_ ?_
        · rw [m5, nI_ltI (by omega) (by omega)] at q1; omega
        · rw [fX4_set_e, b1, pLet_e, if_neg (show ¬ (1 : Int32) = 0 by decide), d1, pLet_e, if_neg (show ¬ (1 : Int32) = 0 by decide), fX4_isOneBit_e, if_pos q1, pLet_e, if_pos rfl]
        · rw [fX5_set_e, b2, pLet_e, if_neg (show ¬ (1 : Int32) = 0 by decide), if_pos q1, fX5_set_b27_e, fX5_set_b30_e, d2, pLet_e, if_neg (show ¬ (1 : Int32) = 0 by decide)]
      · by_cases q2 : 8 < nI a
        · refine yes v hv hx (fun _ z => ?_) ?_ ?_
          · rw [m8, nI_ltI (by omega) (by omega)] at q2; omega
          · rw [fX4_set_e, b1, pLet_e, if_neg (show ¬ (1 : Int32) = 0 by decide), d1, pLet_e, if_neg (show ¬ (1 : Int32) = 0 by decide), fX4_isOneBit_e, if_neg q1, if_pos q2, pLet_e, if_pos rfl]
          · rw [fX5_set_e, b2, pLet_e, if_neg (show ¬ (1 : Int32) = 0 by decide), if_neg q1, if_pos q2, fX5_set_b27_e, fX5_set_b30_e, d2, pLet_e, if_neg (show ¬ (1 : Int32) = 0 by decide)]
        · have e1 : fX4_set B (nI a) x2 = if x2 ≤ 1 then fX4_set_b34 B (nI a) x2 else fX4_set_b26 B := by
            rw [fX4_set_e, b1, pLet_e, if_neg (show ¬ (1 : Int32) = 0 by decide), d1, pLet_e, if_neg (show ¬ (1 : Int32) = 0 by decide), fX4_isOneBit_e, if_neg q1, if_neg q2, pLet_e, if_neg (show ¬ (1 : Int32) = 0 by decide)]
          have e2 : fX5_set M (nI a) x2 = fX5_set_b30 M (nI a) x2 1 0 x2 := by
            rw [fX5_set_e, b2, pLet_e, if_neg (show ¬ (1 : Int32) = 0 by decide), if_neg q1, if_neg q2]
          have n0 : ¬ x2 < 0 := by rw [hx]; exact nI_nlt (b := 0) (by omega) (by omega)
          by_cases q3 : x2 ≤ 1
          · refine yes v hv hx (fun _ _ => ?_) ?_ ?_
            · rw [hx, show (1 : Int32) = nI 1 from rfl, nI_leI (by omega) (by omega)] at q3
              have : v = 0 ∨ v = 1 := by omega
              rcases this with rfl | rfl
              · exact Or.inl hx
              · exact Or.inr hx
            · rw [e1, if_pos q3]
            · rw [e2, fX5_set_b30_e, fX5_isIn_e, if_neg n0, if_neg (Int32.not_lt.mpr q3), pLet_e, if_neg (show ¬ (1 : Int32) = 0 by decide)]
          · refine no (by rw [e1, if_neg q3]) ?_
            rw [e2, fX5_set_b30_e, fX5_isIn_e, if_neg n0, if_pos (Int32.not_le.mp q3), pLet_e, if_pos rfl]
set_option maxRecDepth 20000 in
theorem in_rs {mem reg inp rq gvn size len pages which exA exT cnt ks : Nat → Int32} {rf im rm lr room trn kd by_ fm fs fp fd lb ov : Int32} {st outs code lenC beh siz ser exP lnk : Nat → Int32} {iq rqq : TQ} {gv wr limit blocks filled trl fls dead lrq exe inv lku itp itr en ext : Int32} {e T : Nat} {ls : Nat → List (Nat × Nat)} (h : RS true e T ls ((st, mem, iq, outs, gv, wr), (code, lenC, beh, siz, ser, exP, lnk, limit, blocks, filled, trl, fls, dead), rqq, lrq, exe, inv, lku, itp, itr, en, ext) (rf, mem, reg, inp, im, rq, rm, lr, gvn, size, len, pages, which, exA, exT, room, trn, cnt, kd, by_, fm, fs, fp, fd, ks, lb, ov)) {k : Nat} {iq' : TQ} {v : Int32} (hv : isB v) (hk : k < 32) (him : im = nI k) (hq : QR 32 iq' (upd inp k v) (nI (k + 1))) : RS true e T ls ((st, mem, iq', outs, gv, wr), (code, lenC, beh, siz, ser, exP, lnk, limit, blocks, filled, trl, fls, dead), rqq, lrq, exe, inv, lku, itp, itr, en, ext) (rf, mem, reg, (upd inp k v), (nI (k + 1)), rq, rm, lr, gvn, size, len, pages, which, exA, exT, room, trn, cnt, kd, by_, fm, fs, fp, fd, ks, lb, ov) := by
  have x := h.out
  have hqb : ∀ k' i, k' ≤ 32 → nI (k + 1) = nI k' → i < k' → isB (upd inp k v i) := by
    intro k' i a b c
    have := nI_inj (by omega) (by omega) b
    by_cases z : i = k
    · subst z; rw [pk_us]; exact hv
    · rw [pk_un z]; exact x.qb_ k i (by omega) him (by omega)
  exact RX.in_ ⟨x.g_, x.bs_, x.br_, x.m_, x.mb_, x.wr_, hq, hqb, x.o_, x.gv_, x.ee_, x.rq_, x.lr_, x.c0_, x.c1_, x.c2_, x.c3_, x.c4_, x.c5_, x.c6_, x.c7_, x.c8_, x.c9_, x.c10_, x.c11_, x.t1_, x.t2_, x.tb_, x.li_, x.bl_, x.fi_, x.pb_, x.rf_⟩
theorem inp_ok {j : Nat} {B : TB} {M : TM} (h : ST j B M) (x : Int32) (g : Nat → Int64) : okV (fL_input B x g) (fX5_input M x) j := by
  rcases byt x with ⟨b1, b2, _⟩ | ⟨a, ha, hx, b1, b2⟩
  · refine ⟨1, B, g, 0, sM_refusal M 1, ?_, ?_, rfl, fun z => absurd z (by decide), h.rf⟩
    · rw [fL_input, fX4_input_e, b1, pLet_e, if_pos rfl, pB_e2, if_neg (show ¬ (1 : Int32) = 0 by decide), if_pos rfl]
    · rw [fX5_input_e, b2, pLet_e, if_pos rfl, fX5_input_b30_e, ref1, pLet_e, if_neg (show ¬ (1 : Int32) = 0 by decide)]
  · have hs := h
    obtain ⟨e, T, ls, h1, h2, h3⟩ := h
    have hq : QR 32 (gG_inputs (gB_guest B)) (gM_inputs M) (gM_inputMany M) := h1.q
    have hq0 := hq
    obtain ⟨s, k, r1, r2, r3, r4, r5, r6⟩ := hq
    rw [r5] at hq0
    by_cases hk : k < 32
    · obtain ⟨q', t1, t2⟩ := qr_app (x := x) (by omega) hq0 hk
      have hmany : gQ_many q' = nI (k + 1) := by
        obtain ⟨s', k', u1, u2, u3, u4, u5, u6⟩ := t2
        rw [u4, u5]
      have hfull : fX3_isFull 32 (gG_inputs (gB_guest B)) = 0 := by rw [qr_full (by omega) hq0 (by omega), if_pos hk]
      obtain ⟨⟨st, mem, iq, outs, gv, wr⟩, ⟨code, lenC, beh, siz, ser, exP, lnk, limit, blocks, filled, trl, fls, dead⟩, rqq, lrq, exe, inv, lku, itp, itr, en, ext⟩ := B
      obtain ⟨rf, memM, reg, inp, im, rq, rm, lr, gvn, size, len, pages, which, exA, exT, room, trn, cnt, kd, by_, fm, fs, fp, fd, ks, lb, ov⟩ := M
      have hm : mem = memM := h1.m
      subst hm
      have h1 : RS true e T ls ((st, mem, iq, outs, gv, wr), (code, lenC, beh, siz, ser, exP, lnk, limit, blocks, filled, trl, fls, dead), rqq, lrq, exe, inv, lku, itp, itr, en, ext) (0, mem, reg, inp, im, rq, rm, lr, gvn, size, len, pages, which, exA, exT, room, trn, cnt, kd, by_, fm, fs, fp, fd, ks, lb, ov) := h1
      have r5 : im = nI k := r5
      have r := in_rs h1 ⟨a, ha, hx⟩ hk r5 t2
      refine ⟨0, _, vp_updL g 0 (nI (k + 1)).toInt64, nI (k + 1), _, ?_, ?_, r.rf, fun _ => pk_uLs, ST.of r (by omega) (by omega)⟩
      · rw [fL_input, fX4_input_e, b1, pLet_e, if_neg (show ¬ (1 : Int32) = 0 by decide), hfull, pLet_e, if_pos rfl, t1, pB_e2, pLet_e, pB_e2, if_pos rfl, j0, ← hmany]
        rfl
      · rw [fX5_input_e, b2, pLet_e, if_neg (show ¬ (1 : Int32) = 0 by decide), if_neg (show ¬ gM_inputMany (rf, mem, reg, inp, im, rq, rm, lr, gvn, size, len, pages, which, exA, exT, room, trn, cnt, kd, by_, fm, fs, fp, fd, ks, lb, ov) = 32 by show ¬ im = 32; rw [r5]; exact fun z => absurd (nI_inj (b := 32) (by omega) (by omega) z) (by omega)), fX5_input_b30_e, ref0, pLet_e, if_pos rfl, show gM_inputMany (0, sM_refusal (rf, mem, reg, inp, im, rq, rm, lr, gvn, size, len, pages, which, exA, exT, room, trn, cnt, kd, by_, fm, fs, fp, fd, ks, lb, ov) 0).2 = nI k from r5, pIn_n hk (by omega), cl_n (by omega), pLet_e, pLet_e]
        show some (im + 1, (0, mem, reg, (upd inp k x), (im + 1), rq, rm, lr, gvn, size, len, pages, which, exA, exT, room, trn, cnt, kd, by_, fm, fs, fp, fd, ks, lb, ov)) = _
        rw [r5, nI_1]
    · have hk2 : k = 32 := by omega
      refine ⟨2, B, g, 0, sM_refusal M 2, ?_, ?_, rfl, fun z => absurd z (by decide), hs.rf⟩
      · rw [fL_input, fX4_input_e, b1, pLet_e, if_neg (show ¬ (1 : Int32) = 0 by decide), qr_full (by omega) hq0 (by omega), if_neg hk, pLet_e, if_neg (show ¬ (1 : Int32) = 0 by decide), pB_e2, if_neg (show ¬ (2 : Int32) = 0 by decide), if_neg (show ¬ (2 : Int32) = 1 by decide), if_pos rfl]
      · rw [fX5_input_e, b2, pLet_e, if_neg (show ¬ (1 : Int32) = 0 by decide), if_pos (show gM_inputMany M = 32 by rw [r5, hk2]; rfl), fX5_input_b30_e, ref2, pLet_e, if_neg (show ¬ (1 : Int32) = 0 by decide)]
set_option maxRecDepth 20000 in
theorem rq_rs {mem reg inp rq gvn size len pages which exA exT cnt ks : Nat → Int32} {rf im rm lr room trn kd by_ fm fs fp fd lb ov : Int32} {st outs code lenC beh siz ser exP lnk : Nat → Int32} {iq rqq : TQ} {gv wr limit blocks filled trl fls dead lrq exe inv lku itp itr en ext : Int32} {e T : Nat} {ls : Nat → List (Nat × Nat)} (h : RS true e T ls ((st, mem, iq, outs, gv, wr), (code, lenC, beh, siz, ser, exP, lnk, limit, blocks, filled, trl, fls, dead), rqq, lrq, exe, inv, lku, itp, itr, en, ext) (rf, mem, reg, inp, im, rq, rm, lr, gvn, size, len, pages, which, exA, exT, room, trn, cnt, kd, by_, fm, fs, fp, fd, ks, lb, ov)) {k : Nat} {rqq' : TQ} {v : Int32} (hq : QR 16 rqq' (upd rq k v) (nI (k + 1))) : RS true e T ls ((st, mem, iq, outs, gv, wr), (code, lenC, beh, siz, ser, exP, lnk, limit, blocks, filled, trl, fls, dead), rqq', v, exe, inv, lku, itp, itr, en, ext) (rf, mem, reg, inp, im, (upd rq k v), (nI (k + 1)), v, gvn, size, len, pages, which, exA, exT, room, trn, cnt, kd, by_, fm, fs, fp, fd, ks, lb, ov) := by
  have x := h.out
  exact RX.in_ ⟨x.g_, x.bs_, x.br_, x.m_, x.mb_, x.wr_, x.q_, x.qb_, x.o_, x.gv_, x.ee_, hq, Eq.refl v, x.c0_, x.c1_, x.c2_, x.c3_, x.c4_, x.c5_, x.c6_, x.c7_, x.c8_, x.c9_, x.c10_, x.c11_, x.t1_, x.t2_, x.tb_, x.li_, x.bl_, x.fi_, x.pb_, x.rf_⟩
theorem rq_ok {j : Nat} {B : TB} {M : TM} (h : ST j B M) (x : Int32) (g : Nat → Int64) : okV (fL_request B x g) (fX5_request M x) j := by
  have hs := h
  obtain ⟨e, T, ls, h1, h2, h3⟩ := h
  have hlr : gB_latestRequest B = gM_lastRequest M := h1.lr
  have hc0 : gM_counts M 0 = gB_executed B := h1.c0
  have no : fX4_request B x = fX4_request_b16 B → fX5_request M x = fX5_request_b19 M x → okV (fL_request B x g) (fX5_request M x) j := by
    intro a b
    refine ⟨1, B, g, 0, sM_refusal M 1, ?_, ?_, rfl, fun z => absurd z (by decide), hs.rf⟩
    · rw [fL_request, a, fX4_request_b16_e, pB_e2, if_neg (show ¬ (1 : Int32) = 0 by decide), if_pos rfl]
    · rw [b, fX5_request_b19_e, fX5_request_b37_e, ref1, pLet_e, if_neg (show ¬ (1 : Int32) = 0 by decide)]
  by_cases i1 : x ≤ gM_lastRequest M
  · exact no (by rw [fX4_request_e, hlr, if_pos i1]) (by rw [fX5_request_e, if_pos i1])
  · by_cases i2 : gB_executed B ≤ x
    · have hq : QR 16 (gB_requests B) (gM_requests M) (gM_requestMany M) := h1.rq
      have hq0 := hq
      obtain ⟨s, k, r1, r2, r3, r4, r5, r6⟩ := hq
      rw [r5] at hq0
      by_cases hk : k < 16
      · obtain ⟨q', t1, t2⟩ := qr_app (x := x) (by omega) hq0 hk
        have hmany : gQ_many q' = nI (k + 1) := by
          obtain ⟨s', k', u1, u2, u3, u4, u5, u6⟩ := t2
          rw [u4, u5]
        have hfull : fX3_isFull 16 (gB_requests B) = 0 := by rw [qr_full (by omega) hq0 (by omega), if_pos hk]
        have e1 : fX4_request B x = some (0, gQ_many q', sB_latestRequest (sB_requests B q') x) := by
          rw [fX4_request_e, hlr, if_neg i1, if_pos i2, hfull, pLet_e, if_pos rfl, t1, pB_e2, pLet_e, pLet_e]
          rfl
        have e2 : fX5_request M x = fX5_request_b37 M x 0 := by
          rw [fX5_request_e, if_neg i1, p12_0, j0, hc0, if_pos i2, if_neg (show ¬ gM_requestMany M = 16 by rw [r5]; exact fun z => absurd (nI_inj (b := 16) (by omega) (by omega) z) (by omega))]
        obtain ⟨⟨st, mem, iq, outs, gv, wr⟩, ⟨code, lenC, beh, siz, ser, exP, lnk, limit, blocks, filled, trl, fls, dead⟩, rqq, lrq, exe, inv, lku, itp, itr, en, ext⟩ := B
        obtain ⟨rf, memM, reg, inp, im, rq, rm, lr, gvn, size, len, pages, which, exA, exT, room, trn, cnt, kd, by_, fm, fs, fp, fd, ks, lb, ov⟩ := M
        have hm : mem = memM := h1.m
        subst hm
        have h1 : RS true e T ls ((st, mem, iq, outs, gv, wr), (code, lenC, beh, siz, ser, exP, lnk, limit, blocks, filled, trl, fls, dead), rqq, lrq, exe, inv, lku, itp, itr, en, ext) (0, mem, reg, inp, im, rq, rm, lr, gvn, size, len, pages, which, exA, exT, room, trn, cnt, kd, by_, fm, fs, fp, fd, ks, lb, ov) := h1
        have r5 : rm = nI k := r5
        have r := rq_rs (v := x) h1 t2
        refine ⟨0, _, vp_updL g 0 (nI (k + 1)).toInt64, nI (k + 1), _, ?_, ?_, r.rf, fun _ => pk_uLs, ST.of r (by omega) (by omega)⟩
        · rw [fL_request, e1, pB_e2, if_pos rfl, j0, ← hmany]
          rfl
        · rw [e2, fX5_request_b37_e, ref0, pLet_e, if_pos rfl, show gM_requestMany (0, sM_refusal (rf, mem, reg, inp, im, rq, rm, lr, gvn, size, len, pages, which, exA, exT, room, trn, cnt, kd, by_, fm, fs, fp, fd, ks, lb, ov) 0).2 = nI k from r5, pIn_n hk (by omega), cl_n (by omega), pLet_e, pLet_e, pLet_e]
          show some (rm + 1, (0, mem, reg, inp, im, (upd rq k x), (rm + 1), x, gvn, size, len, pages, which, exA, exT, room, trn, cnt, kd, by_, fm, fs, fp, fd, ks, lb, ov)) = _
          rw [r5, nI_1]
      · have hk2 : k = 16 := by omega
        refine ⟨2, B, g, 0, sM_refusal M 2, ?_, ?_, rfl, fun z => absurd z (by decide), hs.rf⟩
        · rw [fL_request, fX4_request_e, hlr, if_neg i1, if_pos i2, qr_full (by omega) hq0 (by omega), if_neg hk, pLet_e, if_neg (show ¬ (1 : Int32) = 0 by decide), pB_e2, if_neg (show ¬ (2 : Int32) = 0 by decide), if_neg (show ¬ (2 : Int32) = 1 by decide), if_pos rfl]
        · rw [fX5_request_e, if_neg i1, p12_0, j0, hc0, if_pos i2, if_pos (show gM_requestMany M = 16 by rw [r5, hk2]; rfl), fX5_request_b37_e, ref2, pLet_e, if_neg (show ¬ (1 : Int32) = 0 by decide)]
    · exact no (by rw [fX4_request_e, hlr, if_neg i1, if_neg i2]) (by rw [fX5_request_e, if_neg i1, p12_0, j0, hc0, if_neg i2])
set_option maxRecDepth 20000 in
theorem room_ok {j : Nat} {B : TB} {M : TM} (h : ST j B M) (x : Int32) : okU (fL_room B x) (fX5_room M x) j := by
  have no : fX4_room B x = fX4_room_b12 B → fX5_room M x = fX5_room_b17 M x 1 → okU (fL_room B x) (fX5_room M x) j := by
    intro a b
    refine ⟨1, B, sM_refusal M 1, ?_, ?_, rfl, h.rf⟩
    · rw [fL_room, a, fX4_room_b12_e, pB_e2, if_neg (show ¬ (1 : Int32) = 0 by decide), if_pos rfl]
    · rw [b, fX5_room_b17_e, ref1, pLet_e, if_neg (show ¬ (1 : Int32) = 0 by decide)]
  by_cases i1 : x < 1
  · exact no (by rw [fX4_room_e, if_pos i1]) (by rw [fX5_room_e, fX5_isIn_e, if_pos i1, pLet_e, if_pos rfl])
  · by_cases i2 : 400 < x
    · exact no (by rw [fX4_room_e, if_neg i1, if_neg (Int32.not_le.mpr i2)]) (by rw [fX5_room_e, fX5_isIn_e, if_neg i1, if_pos i2, pLet_e, if_pos rfl])
    · obtain ⟨r, r1, r2, rfl⟩ := bd (x := x) (a := 1) (b := 400) (by omega) i1 i2 (by omega)
      obtain ⟨e, T, ls, h1, h2, h3⟩ := h
      obtain ⟨⟨st, mem, iq, outs, gv, wr⟩, ⟨code, lenC, beh, siz, ser, exP, lnk, limit, blocks, filled, trl, fls, dead⟩, rqq, lrq, exe, inv, lku, itp, itr, en, ext⟩ := B
      obtain ⟨rf, memM, reg, inp, im, rq, rm, lr, gvn, size, len, pages, which, exA, exT, room, trn, cnt, kd, by_, fm, fs, fp, fd, ks, lb, ov⟩ := M
      have hm : mem = memM := h1.m
      subst hm
      have h1 : RS true e T ls ((st, mem, iq, outs, gv, wr), (code, lenC, beh, siz, ser, exP, lnk, limit, blocks, filled, trl, fls, dead), rqq, lrq, exe, inv, lku, itp, itr, en, ext) (0, mem, reg, inp, im, rq, rm, lr, gvn, size, len, pages, which, exA, exT, room, trn, cnt, kd, by_, fm, fs, fp, fd, ks, lb, ov) := h1
      have x := h1.out
      obtain ⟨ser', s1, s2⟩ := empty_c (code := code) (len := lenC) (beh := beh) (siz := siz) (ser := ser) (exP := exP) (lnk := lnk) (limit := nI r) (blocks := blocks) (filled := filled) (trl := trl) (fls := fls) (dead := dead)
      obtain ⟨S', u1, u2⟩ := empty_m (v := (0, mem, reg, inp, im, rq, rm, lr, gvn, size, len, pages, which, exA, exT, (nI r), trn, cnt, kd, by_, fm, fs, fp, fd, ks, lb, ov)) (M0 x.pb_ x.tb_) x.c1_ x.c2_
      have hr := flush_rs h1 s1 u1 r1 r2
      refine ⟨0, _, _, ?_, ?_, hr.rf, ST.of hr (by omega) (by omega)⟩
      · rw [fL_room, fX4_room_e, if_neg i1, if_pos (Int32.not_lt.mp i2), pLet_e, show gB_cache (sB_cache ((st, mem, iq, outs, gv, wr), (code, lenC, beh, siz, ser, exP, lnk, limit, blocks, filled, trl, fls, dead), rqq, lrq, exe, inv, lku, itp, itr, en, ext) (sC_limit (gB_cache ((st, mem, iq, outs, gv, wr), (code, lenC, beh, siz, ser, exP, lnk, limit, blocks, filled, trl, fls, dead), rqq, lrq, exe, inv, lku, itp, itr, en, ext)) (nI r))) = (code, lenC, beh, siz, ser, exP, lnk, nI r, blocks, filled, trl, fls, dead) from rfl, s2, pB_e2, pLet_e, pB_e2, if_pos rfl]
        rfl
      · rw [fX5_room_e, fX5_isIn_e, if_neg i1, if_neg i2, pLet_e, if_neg (show ¬ (1 : Int32) = 0 by decide), fX5_room_b17_e, ref0, pLet_e, if_pos rfl, pLet_e, show sM_room (0, sM_refusal (rf, mem, reg, inp, im, rq, rm, lr, gvn, size, len, pages, which, exA, exT, room, trn, cnt, kd, by_, fm, fs, fp, fd, ks, lb, ov) 0).2 (nI r) = (0, mem, reg, inp, im, rq, rm, lr, gvn, size, len, pages, which, exA, exT, (nI r), trn, cnt, kd, by_, fm, fs, fp, fd, ks, lb, ov) from rfl, u2, pB_e2]
        rfl

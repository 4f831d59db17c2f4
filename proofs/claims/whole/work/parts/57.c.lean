/-- what one instruction leaves behind, in both -/
abbrev PF (f' : Bool) (e T : Nat) (ls : Nat → List (Nat × Nat)) (b n a : Nat) (B : TB) (M : TM) (B' : TB) (M' : TM) : Prop :=
  (RS f' (e + 1) T ls B' M') ∧
  (pcx b n a (gM_reg M' 9)) ∧
  (gM_kind M' = nI (kM b)) ∧
  (gB_ending B' = if kC b = 1 then 1 else gB_ending B) ∧
  (gM_isOver M' = if kC b = 1 then 1 else gM_isOver M) ∧
  (gB_exit B' = gB_exit B) ∧
  (gM_leftBy M' = gM_leftBy M) ∧
  (gM_which M' = gM_which M) ∧
  (gC_serial (gB_cache B') = gC_serial (gB_cache B) ∨ f' = true)
theorem PF.rs {f' : Bool} {e T : Nat} {ls : Nat → List (Nat × Nat)} {b n a : Nat} {B : TB} {M : TM} {B' : TB} {M' : TM} (h_ : PF f' e T ls b n a B M B' M') : RS f' (e + 1) T ls B' M' := h_.1
theorem PF.px {f' : Bool} {e T : Nat} {ls : Nat → List (Nat × Nat)} {b n a : Nat} {B : TB} {M : TM} {B' : TB} {M' : TM} (h_ : PF f' e T ls b n a B M B' M') : pcx b n a (gM_reg M' 9) := h_.2.1
theorem PF.kd {f' : Bool} {e T : Nat} {ls : Nat → List (Nat × Nat)} {b n a : Nat} {B : TB} {M : TM} {B' : TB} {M' : TM} (h_ : PF f' e T ls b n a B M B' M') : gM_kind M' = nI (kM b) := h_.2.2.1
theorem PF.en {f' : Bool} {e T : Nat} {ls : Nat → List (Nat × Nat)} {b n a : Nat} {B : TB} {M : TM} {B' : TB} {M' : TM} (h_ : PF f' e T ls b n a B M B' M') : gB_ending B' = if kC b = 1 then 1 else gB_ending B := h_.2.2.2.1
theorem PF.ov {f' : Bool} {e T : Nat} {ls : Nat → List (Nat × Nat)} {b n a : Nat} {B : TB} {M : TM} {B' : TB} {M' : TM} (h_ : PF f' e T ls b n a B M B' M') : gM_isOver M' = if kC b = 1 then 1 else gM_isOver M := h_.2.2.2.2.1
theorem PF.ex {f' : Bool} {e T : Nat} {ls : Nat → List (Nat × Nat)} {b n a : Nat} {B : TB} {M : TM} {B' : TB} {M' : TM} (h_ : PF f' e T ls b n a B M B' M') : gB_exit B' = gB_exit B := h_.2.2.2.2.2.1
theorem PF.lb {f' : Bool} {e T : Nat} {ls : Nat → List (Nat × Nat)} {b n a : Nat} {B : TB} {M : TM} {B' : TB} {M' : TM} (h_ : PF f' e T ls b n a B M B' M') : gM_leftBy M' = gM_leftBy M := h_.2.2.2.2.2.2.1
theorem PF.wh {f' : Bool} {e T : Nat} {ls : Nat → List (Nat × Nat)} {b n a : Nat} {B : TB} {M : TM} {B' : TB} {M' : TM} (h_ : PF f' e T ls b n a B M B' M') : gM_which M' = gM_which M := h_.2.2.2.2.2.2.2.1
theorem PF.se {f' : Bool} {e T : Nat} {ls : Nat → List (Nat × Nat)} {b n a : Nat} {B : TB} {M : TM} {B' : TB} {M' : TM} (h_ : PF f' e T ls b n a B M B' M') : gC_serial (gB_cache B') = gC_serial (gB_cache B) ∨ f' = true := h_.2.2.2.2.2.2.2.2
theorem nI_ne_m1 {n : Nat} (h : n < 2 ^ 31) : ¬ nI n = -1 := by
  intro q
  have h1 : ¬ nI n < 0 := nI_nlt (b := 0) (by omega) h
  rw [q] at h1
  exact h1 (by decide)
set_option maxRecDepth 20000 in
theorem perf_nw {mem reg inp rq gvn size len pages which exA exT cnt ks : Nat → Int32} {rf im rm lr room trn kd by_ fm fs fp fd lb ov : Int32} {st outs code lenC beh siz ser exP lnk : Nat → Int32} {iq rqq : TQ} {gv limit blocks filled trl fls dead lrq exe inv lku itp itr en ext : Int32} {f f' dd : Bool} {e T a b n : Nat} {ls : Nat → List (Nat × Nat)} (h : RS f e T ls ((st, mem, iq, outs, gv, (-1)), (code, lenC, beh, siz, ser, exP, lnk, limit, blocks, filled, trl, fls, dead), rqq, lrq, exe, inv, lku, itp, itr, en, ext) (rf, mem, reg, inp, im, rq, rm, lr, gvn, size, len, pages, which, exA, exT, room, trn, cnt, kd, by_, fm, fs, fp, fd, ks, lb, ov)) (hb : b < 256) (hn : n < 256) {st' reg' outs' gvn' inp' cnt' : Nat → Int32} {iq' : TQ} {gv' im' ov' : Int32}
    (hx : fX2_execute (st, mem, iq, outs, gv, -1) (nI (wd b n dd)) = some (st', mem, iq', outs', gv', -1)) (hs : fX5_step (rf, mem, reg, inp, im, rq, rm, lr, gvn, size, len, pages, which, exA, exT, room, trn, cnt, kd, by_, fm, fs, fp, fd, ks, lb, ov) = some (rf, mem, reg', inp', im', rq, rm, lr, gvn', size, len, pages, which, exA, exT, room, trn, cnt', (nI (kM b)), (nI (bytB b)), fm, fs, fp, fd, ks, lb, ov'))
    (g1 : GR f' st' reg') (g2 : BI st') (g3 : BI reg') (g4 : pcx b n a (reg' 9)) (q1 : QR 32 iq' inp' im') (q2 : ∀ k i, k ≤ 32 → im' = nI k → i < k → isB (inp' i)) (o1 : outs' = gvn') (o2 : ∃ gn, gn ≤ e + 1 ∧ gv' = nI gn)
    (k0 : cnt' 0 = cnt 0 + 1) (k10 : cnt' 10 = gv') (k11 : cnt' 11 = if kC b = 1 then 1 else cnt 11) (kk : ∀ i, i ≠ 0 → i ≠ 10 → i ≠ 11 → cnt' i = cnt i) (ho : ov' = if kC b = 1 then 1 else ov) :
    ∃ B' M', fX4_perform ((st, mem, iq, outs, gv, (-1)), (code, lenC, beh, siz, ser, exP, lnk, limit, blocks, filled, trl, fls, dead), rqq, lrq, exe, inv, lku, itp, itr, en, ext) (nI (wd b n dd)) = some B' ∧ fX5_step (rf, mem, reg, inp, im, rq, rm, lr, gvn, size, len, pages, which, exA, exT, room, trn, cnt, kd, by_, fm, fs, fp, fd, ks, lb, ov) = some M' ∧ PF f' e T ls b n a ((st, mem, iq, outs, gv, (-1)), (code, lenC, beh, siz, ser, exP, lnk, limit, blocks, filled, trl, fls, dead), rqq, lrq, exe, inv, lku, itp, itr, en, ext) (rf, mem, reg, inp, im, rq, rm, lr, gvn, size, len, pages, which, exA, exT, room, trn, cnt, kd, by_, fm, fs, fp, fd, ks, lb, ov) B' M' := by
  refine ⟨((st', mem, iq', outs', gv', (-1)), (code, lenC, beh, siz, ser, exP, lnk, limit, blocks, filled, trl, fls, dead), rqq, lrq, (exe + 1), inv, lku, itp, itr, (if kC b = 1 then 1 else en), ext), _, ?_, hs, ?_⟩
  · rw [fX4_perform_e, show gB_guest ((st, mem, iq, outs, gv, (-1)), (code, lenC, beh, siz, ser, exP, lnk, limit, blocks, filled, trl, fls, dead), rqq, lrq, exe, inv, lku, itp, itr, en, ext) = (st, mem, iq, outs, gv, -1) from rfl, hx, pB_e2]
    simp only [pLet_e]
    rw [fX4_dropWritten_e]
    have e1 : gG_written (gB_guest (sB_executed (sB_guest ((st, mem, iq, outs, gv, (-1)), (code, lenC, beh, siz, ser, exP, lnk, limit, blocks, filled, trl, fls, dead), rqq, lrq, exe, inv, lku, itp, itr, en, ext) (st', mem, iq', outs', gv', -1)) (gB_executed (sB_guest ((st, mem, iq, outs, gv, (-1)), (code, lenC, beh, siz, ser, exP, lnk, limit, blocks, filled, trl, fls, dead), rqq, lrq, exe, inv, lku, itp, itr, en, ext) (st', mem, iq', outs', gv', -1)) + 1))) = -1 := rfl
    rw [if_pos e1, pB_e2, w_kind hb hn]
    by_cases h1 : kC b = 1
    · rw [if_pos (show nI (kC b) = 1 by rw [h1]; rfl)]
      simp only [if_pos h1]
      rfl
    · rw [if_neg (show ¬ nI (kC b) = 1 from fun z => h1 (nI_inj (by have := (kC_eq b hb).2; omega) (by omega) (b := 1) z))]
      simp only [if_neg h1]
      rfl
  · have he : exe = nI e := h.ee
    refine ⟨⟨g1, g2, g3, rfl, h.mb, rfl, q1, q2, o1, o2, ?_, h.rq, h.lr, ?_, ?_, ?_, ?_, ?_, ?_, ?_, ?_, ?_, ?_, k10, ?_, h.t1, h.t2, h.tb, h.li, h.bl, h.fi, h.pb, h.rf⟩, g4, rfl, rfl, ho, rfl, rfl, rfl, Or.inl rfl⟩
    · show exe + 1 = nI (e + 1)
      rw [he, nI_1]
    · show cnt' 0 = exe + 1
      rw [k0, show cnt 0 = exe from h.c0]
    · exact (kk 1 (by omega) (by omega) (by omega)).trans h.c1
    · exact (kk 2 (by omega) (by omega) (by omega)).trans h.c2
    · exact (kk 3 (by omega) (by omega) (by omega)).trans h.c3
    · exact (kk 4 (by omega) (by omega) (by omega)).trans h.c4
    · exact (kk 5 (by omega) (by omega) (by omega)).trans h.c5
    · exact (kk 6 (by omega) (by omega) (by omega)).trans h.c6
    · exact (kk 7 (by omega) (by omega) (by omega)).trans h.c7
    · exact (kk 8 (by omega) (by omega) (by omega)).trans h.c8
    · exact (kk 9 (by omega) (by omega) (by omega)).trans h.c9
    · show cnt' 11 = if kC b = 1 then 1 else en
      rw [k11, show cnt 11 = en from h.c11]
theorem write_e {mem reg inp rq gvn size len pages which exA exT cnt ks : Nat → Int32} {rf im rm lr room trn kd by_ fm fs fp fd lb ov : Int32} {ad : Nat} {x : Int32} (had : ad < 256) (h0 : ∀ p, p < 256 → size p ≤ 0 → size p = 0) (h1 : cnt 1 = cnM size) (h2 : cnt 2 = flM size) : fX5_write (rf, mem, reg, inp, im, rq, rm, lr, gvn, size, len, pages, which, exA, exT, room, trn, cnt, kd, by_, fm, fs, fp, fd, ks, lb, ov) (nI ad) x = some (rf, (upd mem ad x), reg, inp, im, rq, rm, lr, gvn, (mS size pages (ad / 32)), len, pages, which, exA, exT, room, trn, (upd (upd (upd cnt 1 (cnM (mS size pages (ad / 32)))) 2 (flM (mS size pages (ad / 32)))) 4 (cnt 4 + (cnM size - cnM (mS size pages (ad / 32))))), kd, by_, fm, fs, fp, fd, ks, lb, ov) := by
  rw [fX5_write, pIn_n had (by omega), cl_n (by omega)]
  simp only [pLet_e]
  rw [p12_4, invalidate_e (v := sM_memory (rf, mem, reg, inp, im, rq, rm, lr, gvn, size, len, pages, which, exA, exT, room, trn, cnt, kd, by_, fm, fs, fp, fd, ks, lb, ov) (upd (gM_memory (rf, mem, reg, inp, im, rq, rm, lr, gvn, size, len, pages, which, exA, exT, room, trn, cnt, kd, by_, fm, fs, fp, fd, ks, lb, ov)) ad x)) had h0 h1 h2, pB_e2, p12_4, j4]
  rfl
set_option maxRecDepth 20000 in
theorem perf_w {mem reg inp rq gvn size len pages which exA exT cnt ks : Nat → Int32} {rf im rm lr room trn kd by_ fm fs fp fd lb ov : Int32} {st outs code lenC beh siz ser exP lnk : Nat → Int32} {iq rqq : TQ} {gv limit blocks filled trl fls dead lrq exe inv lku itp itr en ext : Int32} {e T a b n ad : Nat} {ls : Nat → List (Nat × Nat)} (h : RS true e T ls ((st, mem, iq, outs, gv, (-1)), (code, lenC, beh, siz, ser, exP, lnk, limit, blocks, filled, trl, fls, dead), rqq, lrq, exe, inv, lku, itp, itr, en, ext) (rf, mem, reg, inp, im, rq, rm, lr, gvn, size, len, pages, which, exA, exT, room, trn, cnt, kd, by_, fm, fs, fp, fd, ks, lb, ov)) (hb : b < 256) (hn : n < 256) (had : ad < 256) {x : Int32} (hxb : isB x) {st' reg' : Nat → Int32} (hk1 : ¬ kC b = 1)
    (hx : fX2_execute (st, mem, iq, outs, gv, -1) (nI (wd b n false)) = some (st', upd mem ad x, iq, outs, gv, nI ad)) (hs : fX5_step (rf, mem, reg, inp, im, rq, rm, lr, gvn, size, len, pages, which, exA, exT, room, trn, cnt, kd, by_, fm, fs, fp, fd, ks, lb, ov) = some (rf, (upd mem ad x), reg', inp, im, rq, rm, lr, gvn, (mS size pages (ad / 32)), len, pages, which, exA, exT, room, trn, (upd (upd (upd (upd cnt 0 (cnt 0 + 1)) 1 (cnM (mS size pages (ad / 32)))) 2 (flM (mS size pages (ad / 32)))) 4 ((upd cnt 0 (cnt 0 + 1)) 4 + (cnM size - cnM (mS size pages (ad / 32))))), (nI (kM b)), (nI (bytB b)), fm, fs, fp, fd, ks, lb, ov))
    (g1 : GR true st' reg') (g2 : BI st') (g3 : BI reg') (g4 : pcx b n a (reg' 9)) :
    ∃ B' M', fX4_perform ((st, mem, iq, outs, gv, (-1)), (code, lenC, beh, siz, ser, exP, lnk, limit, blocks, filled, trl, fls, dead), rqq, lrq, exe, inv, lku, itp, itr, en, ext) (nI (wd b n false)) = some B' ∧ fX5_step (rf, mem, reg, inp, im, rq, rm, lr, gvn, size, len, pages, which, exA, exT, room, trn, cnt, kd, by_, fm, fs, fp, fd, ks, lb, ov) = some M' ∧ PF true e T ls b n a ((st, mem, iq, outs, gv, (-1)), (code, lenC, beh, siz, ser, exP, lnk, limit, blocks, filled, trl, fls, dead), rqq, lrq, exe, inv, lku, itp, itr, en, ext) (rf, mem, reg, inp, im, rq, rm, lr, gvn, size, len, pages, which, exA, exT, room, trn, cnt, kd, by_, fm, fs, fp, fd, ks, lb, ov) B' M' := by
  have hT : T < 2 ^ 30 := h.tb
  have hpb : ∀ p, p < 256 → PB mem code lenC beh siz ser exP lnk size len pages which exA exT (ls p) T p := h.pb
  have hpb2 : ∀ p, p < 256 → PB (upd mem ad x) code lenC beh siz (dS ser beh (ad / 32)) exP lnk (mS size pages (ad / 32)) len pages which exA exT (ls p) T p := fun p hp => (hpb p hp).drop hp had
  have hbl : blocks = cn ser := h.bl
  have hfi : filled = fl ser siz := h.fi
  have hc := cn_eq hpb hT
  have hc2 := cn_eq hpb2 hT
  refine ⟨((st', (upd mem ad x), iq, outs, gv, (-1)), (code, lenC, beh, siz, (dS ser beh (ad / 32)), exP, lnk, limit, (cn (dS ser beh (ad / 32))), (fl (dS ser beh (ad / 32)) siz), trl, fls, dead), rqq, lrq, (exe + 1), (inv + (cn ser - cn (dS ser beh (ad / 32)))), lku, itp, itr, en, ext), _, ?_, hs, ?_⟩
  · rw [fX4_perform_e, show gB_guest ((st, mem, iq, outs, gv, (-1)), (code, lenC, beh, siz, ser, exP, lnk, limit, blocks, filled, trl, fls, dead), rqq, lrq, exe, inv, lku, itp, itr, en, ext) = (st, mem, iq, outs, gv, -1) from rfl, hx, pB_e2]
    simp only [pLet_e]
    rw [fX4_dropWritten_e]
    have e1 : gG_written (gB_guest (sB_executed (sB_guest ((st, mem, iq, outs, gv, (-1)), (code, lenC, beh, siz, ser, exP, lnk, limit, blocks, filled, trl, fls, dead), rqq, lrq, exe, inv, lku, itp, itr, en, ext) (st', upd mem ad x, iq, outs, gv, nI ad)) (gB_executed (sB_guest ((st, mem, iq, outs, gv, (-1)), (code, lenC, beh, siz, ser, exP, lnk, limit, blocks, filled, trl, fls, dead), rqq, lrq, exe, inv, lku, itp, itr, en, ext) (st', upd mem ad x, iq, outs, gv, nI ad)) + 1))) = nI ad := rfl
    have e2 : gB_cache (sB_executed (sB_guest ((st, mem, iq, outs, gv, (-1)), (code, lenC, beh, siz, ser, exP, lnk, limit, blocks, filled, trl, fls, dead), rqq, lrq, exe, inv, lku, itp, itr, en, ext) (st', upd mem ad x, iq, outs, gv, nI ad)) (gB_executed (sB_guest ((st, mem, iq, outs, gv, (-1)), (code, lenC, beh, siz, ser, exP, lnk, limit, blocks, filled, trl, fls, dead), rqq, lrq, exe, inv, lku, itp, itr, en, ext) (st', upd mem ad x, iq, outs, gv, nI ad)) + 1)) = (code, lenC, beh, siz, ser, exP, lnk, limit, blocks, filled, trl, fls, dead) := rfl
    rw [e1, if_neg (show ¬ nI ad = -1 from nI_ne_m1 (by omega)), div32 (by omega), e2, dropPage_e (g := ad / 32) (by omega) hbl hfi (fun p hp hs0 ht => ((hpb p hp).of hs0).win hp (by omega) ht), pB_e2]
    simp only [pLet_e]
    rw [pB_e2, w_kind hb hn, if_neg (show ¬ nI (kC b) = 1 from fun z => hk1 (nI_inj (by have := (kC_eq b hb).2; omega) (by omega) (b := 1) z))]
    rfl
  · have he : exe = nI e := h.ee
    obtain ⟨gn, gn1, gn2⟩ := h.gv
    refine ⟨⟨g1, g2, g3, rfl, fun i => ?_, rfl, h.q, h.qb, h.o, ⟨gn, by omega, gn2⟩, ?_, h.rq, h.lr, ?_, rfl, rfl, h.c3, ?_, h.c5, h.c6, h.c7, h.c8, h.c9, h.c10, h.c11, h.t1, h.t2, h.tb, h.li, rfl, rfl, hpb2, h.rf⟩, g4, rfl, (if_neg hk1).symm, (if_neg hk1).symm, rfl, rfl, rfl, Or.inr rfl⟩
    · show isB (upd mem ad x i)
      by_cases q : i = ad
      · subst q; rw [pk_us]; exact hxb
      · rw [pk_un q]; exact h.mb i
    · show exe + 1 = nI (e + 1)
      rw [he, nI_1]
    · show cnt 0 + 1 = exe + 1
      rw [show cnt 0 = exe from h.c0]
    · show cnt 4 + (cnM size - cnM (mS size pages (ad / 32))) = inv + (cn ser - cn (dS ser beh (ad / 32)))
      rw [show cnt 4 = inv from h.c4, hc.1, hc2.1]

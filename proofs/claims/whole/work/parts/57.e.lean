/-- the same, spoken of the parts -/
structure RX (f : Bool) (e T : Nat) (ls : Nat → List (Nat × Nat)) (st mem : Nat → Int32) (iq : TQ) (outs : Nat → Int32) (gv wr : Int32) (code lenC beh siz ser exP lnk : Nat → Int32) (limit blocks filled trl fls dead : Int32) (rqq : TQ) (lrq exe inv lku itp itr en : Int32) (memM reg inp : Nat → Int32) (im : Int32) (rq : Nat → Int32) (rm lr : Int32) (gvn size len pages which exA exT : Nat → Int32) (room trn : Int32) (cnt : Nat → Int32) : Prop where
  g_ : GR f st reg
  bs_ : BI st
  br_ : BI reg
  m_ : mem = memM
  mb_ : ∀ i, isB (memM i)
  wr_ : wr = -1
  q_ : QR 32 iq inp im
  qb_ : ∀ k i, k ≤ 32 → im = nI k → i < k → isB (inp i)
  o_ : outs = gvn
  gv_ : ∃ gn, gn ≤ e ∧ gv = nI gn
  ee_ : exe = nI e
  rq_ : QR 16 rqq rq rm
  lr_ : lrq = lr
  c0_ : cnt 0 = exe
  c1_ : cnt 1 = cnM size
  c2_ : cnt 2 = flM size
  c3_ : cnt 3 = trl
  c4_ : cnt 4 = inv
  c5_ : cnt 5 = fls
  c6_ : cnt 6 = lku
  c7_ : cnt 7 = itp
  c8_ : cnt 8 = itr
  c9_ : cnt 9 = dead
  c10_ : cnt 10 = gv
  c11_ : cnt 11 = en
  t1_ : trl = nI T
  t2_ : trn = nI T
  tb_ : T < 2 ^ 30
  li_ : ∃ r, 1 ≤ r ∧ r ≤ 400 ∧ limit = nI r ∧ room = nI r
  bl_ : blocks = cn ser
  fi_ : filled = fl ser siz
  pb_ : ∀ p, p < 256 → PB memM code lenC beh siz ser exP lnk size len pages which exA exT (ls p) T p
theorem RS.out {mem memM reg inp rq gvn size len pages which exA exT cnt ks : Nat → Int32} {rf im rm lr room trn kd by_ fm fs fp fd lb ov : Int32} {st outs code lenC beh siz ser exP lnk : Nat → Int32} {iq rqq : TQ} {gv wr limit blocks filled trl fls dead lrq exe inv lku itp itr en ext : Int32} {f : Bool} {e T : Nat} {ls : Nat → List (Nat × Nat)} (h : RS f e T ls ((st, mem, iq, outs, gv, wr), (code, lenC, beh, siz, ser, exP, lnk, limit, blocks, filled, trl, fls, dead), rqq, lrq, exe, inv, lku, itp, itr, en, ext) (rf, memM, reg, inp, im, rq, rm, lr, gvn, size, len, pages, which, exA, exT, room, trn, cnt, kd, by_, fm, fs, fp, fd, ks, lb, ov)) : RX f e T ls st mem iq outs gv wr code lenC beh siz ser exP lnk limit blocks filled trl fls dead rqq lrq exe inv lku itp itr en memM reg inp im rq rm lr gvn size len pages which exA exT room trn cnt := ⟨h.g, h.bs, h.br, h.m, h.mb, h.wr, h.q, h.qb, h.o, h.gv, h.ee, h.rq, h.lr, h.c0, h.c1, h.c2, h.c3, h.c4, h.c5, h.c6, h.c7, h.c8, h.c9, h.c10, h.c11, h.t1, h.t2, h.tb, h.li, h.bl, h.fi, h.pb⟩
theorem RX.in_ {mem memM reg inp rq gvn size len pages which exA exT cnt ks : Nat → Int32} {rf im rm lr room trn kd by_ fm fs fp fd lb ov : Int32} {st outs code lenC beh siz ser exP lnk : Nat → Int32} {iq rqq : TQ} {gv wr limit blocks filled trl fls dead lrq exe inv lku itp itr en ext : Int32} {f : Bool} {e T : Nat} {ls : Nat → List (Nat × Nat)} (h : RX f e T ls st mem iq outs gv wr code lenC beh siz ser exP lnk limit blocks filled trl fls dead rqq lrq exe inv lku itp itr en memM reg inp im rq rm lr gvn size len pages which exA exT room trn cnt) : RS f e T ls ((st, mem, iq, outs, gv, wr), (code, lenC, beh, siz, ser, exP, lnk, limit, blocks, filled, trl, fls, dead), rqq, lrq, exe, inv, lku, itp, itr, en, ext) (rf, memM, reg, inp, im, rq, rm, lr, gvn, size, len, pages, which, exA, exT, room, trn, cnt, kd, by_, fm, fs, fp, fd, ks, lb, ov) := ⟨h.g_, h.bs_, h.br_, h.m_, h.mb_, h.wr_, h.q_, h.qb_, h.o_, h.gv_, h.ee_, h.rq_, h.lr_, h.c0_, h.c1_, h.c2_, h.c3_, h.c4_, h.c5_, h.c6_, h.c7_, h.c8_, h.c9_, h.c10_, h.c11_, h.t1_, h.t2_, h.tb_, h.li_, h.bl_, h.fi_, h.pb_⟩

set_option maxRecDepth 20000 in
theorem lay_rs {mem reg inp rq gvn size len pages which exA exT cnt ks : Nat → Int32} {rf im rm lr room trn kd by_ fm fs fp fd lb ov : Int32} {st outs code lenC beh siz ser exP lnk : Nat → Int32} {iq rqq : TQ} {gv wr limit blocks filled trl fls dead lrq exe inv lku itp itr en ext : Int32} {f : Bool} {e T : Nat} {ls : Nat → List (Nat × Nat)} (h : RS f e T ls ((st, mem, iq, outs, gv, wr), (code, lenC, beh, siz, ser, exP, lnk, limit, blocks, filled, trl, fls, dead), rqq, lrq, exe, inv, lku, itp, itr, en, ext) (rf, mem, reg, inp, im, rq, rm, lr, gvn, size, len, pages, which, exA, exT, room, trn, cnt, kd, by_, fm, fs, fp, fd, ks, lb, ov)) {p : Nat} (hp : p < 256) (hs : ser p = 0) {code' ks' : Nat → Int32} (hc : ∀ j, (j < 8 * p ∨ 8 * p + 8 ≤ j) → code' j = code j) {x1 x2 x3 kd' by' fm' fs' fp' fd' : Int32} : RS f e T ls ((st, mem, iq, outs, gv, wr), (code', (upd lenC p x1), (upd beh p x2), (upd siz p x3), ser, exP, lnk, limit, blocks, filled, trl, fls, dead), rqq, lrq, exe, inv, lku, itp, itr, en, ext) (rf, mem, reg, inp, im, rq, rm, lr, gvn, size, len, pages, which, exA, exT, room, trn, cnt, kd', by', fm', fs', fp', fd', ks', lb, ov) := by
  have x := h.out
  have hpb : ∀ p, p < 256 → PB mem code lenC beh siz ser exP lnk size len pages which exA exT (ls p) T p := x.pb_
  have hfi : filled = fl ser siz := x.fi_
  have hf2 : filled = fl ser (upd siz p x3) := by
    rw [fl_siz hp hs]; exact hfi
  have hh : ∀ i, i < 256 → PB mem code' (upd lenC p x1) (upd beh p x2) (upd siz p x3) ser exP lnk size len pages which exA exT (ls i) T i := by
    intro i hi
    rcases hpb i hi with q | q
    · exact Or.inl q
    · by_cases e : i = p
      · subst e
        exact absurd hs (q.nz x.tb_).1
      · exact Or.inr (q.cong (fun j a b => hc j (by omega)) (pk_un e) (pk_un e) (pk_un e) rfl rfl rfl rfl rfl rfl rfl q.lk (Nat.le_refl T))
  exact RX.in_ ⟨x.g_, x.bs_, x.br_, x.m_, x.mb_, x.wr_, x.q_, x.qb_, x.o_, x.gv_, x.ee_, x.rq_, x.lr_, x.c0_, x.c1_, x.c2_, x.c3_, x.c4_, x.c5_, x.c6_, x.c7_, x.c8_, x.c9_, x.c10_, x.c11_, x.t1_, x.t2_, x.tb_, x.li_, x.bl_, hf2, hh, x.rf_⟩
set_option maxRecDepth 20000 in
theorem flush_rs {mem reg inp rq gvn size len pages which exA exT cnt ks : Nat → Int32} {rf im rm lr room trn kd by_ fm fs fp fd lb ov : Int32} {st outs code lenC beh siz ser exP lnk : Nat → Int32} {iq rqq : TQ} {gv wr limit blocks filled trl fls dead lrq exe inv lku itp itr en ext : Int32} {f : Bool} {e T : Nat} {ls : Nat → List (Nat × Nat)} (h : RS f e T ls ((st, mem, iq, outs, gv, wr), (code, lenC, beh, siz, ser, exP, lnk, limit, blocks, filled, trl, fls, dead), rqq, lrq, exe, inv, lku, itp, itr, en, ext) (rf, mem, reg, inp, im, rq, rm, lr, gvn, size, len, pages, which, exA, exT, room, trn, cnt, kd, by_, fm, fs, fp, fd, ks, lb, ov)) {ser' size' : Nat → Int32} (h1 : ∀ j, j < 256 → ser' j = 0) (h2 : ∀ j, j < 256 → size' j = 0) {r : Nat} (r1 : 1 ≤ r) (r2 : r ≤ 400) : RS f e T ls ((st, mem, iq, outs, gv, wr), (code, lenC, beh, siz, ser', exP, lnk, (nI r), 0, 0, trl, fls, dead), rqq, lrq, exe, inv, lku, itp, itr, en, ext) (rf, mem, reg, inp, im, rq, rm, lr, gvn, size', len, pages, which, exA, exT, (nI r), trn, (upd (upd cnt 1 0) 2 0), kd, by_, fm, fs, fp, fd, ks, lb, ov) := by
  have x := h.out
  have z1 := cn_zero (siz := siz) h1
  have z2 := cnM_zero h2
  have hh : ∀ i, i < 256 → PB mem code lenC beh siz ser' exP lnk size' len pages which exA exT (ls i) T i := fun i hi => Or.inl ⟨h1 i hi, h2 i hi⟩
  exact RX.in_ ⟨x.g_, x.bs_, x.br_, x.m_, x.mb_, x.wr_, x.q_, x.qb_, x.o_, x.gv_, x.ee_, x.rq_, x.lr_, ((pk_un (by omega)).trans (pk_un (by omega))).trans x.c0_, ((pk_un (by omega)).trans pk_us).trans z2.1.symm, pk_us.trans z2.2.symm, ((pk_un (by omega)).trans (pk_un (by omega))).trans x.c3_, ((pk_un (by omega)).trans (pk_un (by omega))).trans x.c4_, ((pk_un (by omega)).trans (pk_un (by omega))).trans x.c5_, ((pk_un (by omega)).trans (pk_un (by omega))).trans x.c6_, ((pk_un (by omega)).trans (pk_un (by omega))).trans x.c7_, ((pk_un (by omega)).trans (pk_un (by omega))).trans x.c8_, ((pk_un (by omega)).trans (pk_un (by omega))).trans x.c9_, ((pk_un (by omega)).trans (pk_un (by omega))).trans x.c10_, ((pk_un (by omega)).trans (pk_un (by omega))).trans x.c11_, x.t1_, x.t2_, x.tb_, ⟨r, r1, r2, rfl, rfl⟩, z1.1.symm, z1.2.symm, hh, x.rf_⟩
set_option maxRecDepth 20000 in
theorem fls_rs {mem reg inp rq gvn size len pages which exA exT cnt ks : Nat → Int32} {rf im rm lr room trn kd by_ fm fs fp fd lb ov : Int32} {st outs code lenC beh siz ser exP lnk : Nat → Int32} {iq rqq : TQ} {gv wr limit blocks filled trl fls dead lrq exe inv lku itp itr en ext : Int32} {f : Bool} {e T : Nat} {ls : Nat → List (Nat × Nat)} (h : RS f e T ls ((st, mem, iq, outs, gv, wr), (code, lenC, beh, siz, ser, exP, lnk, limit, blocks, filled, trl, fls, dead), rqq, lrq, exe, inv, lku, itp, itr, en, ext) (rf, mem, reg, inp, im, rq, rm, lr, gvn, size, len, pages, which, exA, exT, room, trn, cnt, kd, by_, fm, fs, fp, fd, ks, lb, ov)) : RS f e T ls ((st, mem, iq, outs, gv, wr), (code, lenC, beh, siz, ser, exP, lnk, limit, blocks, filled, trl, (fls + 1), dead), rqq, lrq, exe, inv, lku, itp, itr, en, ext) (rf, mem, reg, inp, im, rq, rm, lr, gvn, size, len, pages, which, exA, exT, room, trn, (upd cnt 5 (cnt 5 + 1)), kd, by_, fm, fs, fp, fd, ks, lb, ov) := by
  have x := h.out
  have e5 : upd cnt 5 (cnt 5 + 1) 5 = fls + 1 := by rw [pk_us, x.c5_]
  exact RX.in_ ⟨x.g_, x.bs_, x.br_, x.m_, x.mb_, x.wr_, x.q_, x.qb_, x.o_, x.gv_, x.ee_, x.rq_, x.lr_, (pk_un (by omega)).trans x.c0_, (pk_un (by omega)).trans x.c1_, (pk_un (by omega)).trans x.c2_, (pk_un (by omega)).trans x.c3_, (pk_un (by omega)).trans x.c4_, e5, (pk_un (by omega)).trans x.c6_, (pk_un (by omega)).trans x.c7_, (pk_un (by omega)).trans x.c8_, (pk_un (by omega)).trans x.c9_, (pk_un (by omega)).trans x.c10_, (pk_un (by omega)).trans x.c11_, x.t1_, x.t2_, x.tb_, x.li_, x.bl_, x.fi_, x.pb_, x.rf_⟩
theorem pg_span {p nb g : Nat} (hp : p < 256) (h1 : 1 ≤ nb) (h2 : nb ≤ 16) : (∃ k, k < nb ∧ (p + k) % 256 / 32 = g) ↔ (p / 32 = g ∨ (p + nb - 1) % 256 / 32 = g) := by
  constructor
  · rintro ⟨k, k1, k2⟩
    omega
  · intro z
    rcases z with z | z
    · exact ⟨0, by omega, by rw [Nat.add_zero, Nat.mod_eq_of_lt hp]; exact z⟩
    · exact ⟨nb - 1, by omega, by rw [show p + (nb - 1) = p + nb - 1 by omega]; exact z⟩
set_option maxRecDepth 20000 in
theorem keep_rs {mem reg inp rq gvn size len pages which exA exT cnt ks : Nat → Int32} {rf im rm lr room trn kd by_ fm fs fp fd lb ov : Int32} {st outs code lenC beh siz ser exP lnk : Nat → Int32} {iq rqq : TQ} {gv wr limit blocks filled trl fls dead lrq exe inv lku itp itr en ext : Int32} {f : Bool} {e T : Nat} {ls : Nat → List (Nat × Nat)} (h : RS f e T ls ((st, mem, iq, outs, gv, wr), (code, lenC, beh, siz, ser, exP, lnk, limit, blocks, filled, trl, fls, dead), rqq, lrq, exe, inv, lku, itp, itr, en, ext) (rf, mem, reg, inp, im, rq, rm, lr, gvn, size, len, pages, which, exA, exT, room, trn, cnt, kd, by_, fm, fs, fp, fd, ks, lb, ov)) {p Z P : Nat} {pre : List (Nat × Nat)} {q : Nat × Nat} (hp : p < 256) (hT : T + 1 < 2 ^ 30) (hs : ser p = 0) (hz : size p = 0) (hl : dcl mem 8 p = pre ++ [q]) (hcw : cwd code (8 * p) (pre ++ [q])) (hle : lenC p = nI (pre ++ [q]).length) (hbe : beh p = nI ((p + nby (pre ++ [q])) % 256)) (hsz : siz p = nI Z) (hZ1 : 1 ≤ Z) (hZ4 : Z ≤ 400) (hP : P < 256) (hPb : ∀ g, g < 8 → (P.testBit g = true ↔ ∃ k, k < nby (pre ++ [q]) ∧ (p + k) % 256 / 32 = g)) :
    RS f e (T + 1) (fun i => if i = p then pre ++ [q] else ls i) ((st, mem, iq, outs, gv, wr), (code, lenC, beh, siz, (upd ser p (trl + 1)), (upd (upd exP (2 * p) (if leaB q.1 = true ∧ bytB q.1 = 2 then nI q.2 else -1)) (2 * p + 1) (if kC q.1 = 24 ∨ kC q.1 = 29 ∨ leaB q.1 = false then beh p else -1)), (upd (upd lnk (2 * p) 0) (2 * p + 1) 0), limit, (blocks + 1), (filled + siz p), (trl + 1), fls, (dead + nI (ndd (pre ++ [q])))), rqq, lrq, exe, inv, lku, itp, itr, en, ext) (rf, mem, reg, inp, im, rq, rm, lr, gvn, (upd size p (nI Z)), (upd len p (nI (pre ++ [q]).length)), (upd pages p (nI P)), (upd which p (trn + 1)), (upd (upd exA (2 * p) (-1)) (2 * p + 1) (-1)), exT, room, (trn + 1), (upd (upd (upd (upd cnt 1 (cnt 1 + 1)) 2 (cnt 2 + nI Z)) 3 (cnt 3 + 1)) 9 (cnt 9 + nI (ndd (pre ++ [q])))), kd, by_, fm, fs, fp, fd, ks, lb, ov) ∧ ¬ upd ser p (trl + 1) p = 0 := by
  have x := h.out
  have hpb : ∀ p, p < 256 → PB mem code lenC beh siz ser exP lnk size len pages which exA exT (ls p) T p := x.pb_
  have hfi : filled = fl ser siz := x.fi_
  have hbl : blocks = cn ser := x.bl_
  have ht1 : trl = nI T := x.t1_
  have ht2 : trn = nI T := x.t2_
  have hmb : ∀ i, isB (mem i) := x.mb_
  have hk0 : ¬ (trl + 1 : Int32) = 0 := by
    rw [ht1, nI_1]
    exact fun z => by have := nI_inj (b := 0) (by omega) (by omega) z; omega
  have hZ0 : ¬ nI Z ≤ 0 := nI_ge (a := 0) (by omega) (by omega)
  have hc := cnM_ins hp hz hZ0
  have hmt := dcl_mt hmb 8 p
  have hed := dcl_ed (m := mem) 8 p
  have h8 := dcl_len (m := mem) 8 p
  rw [hl] at hmt h8
  have hok := mt_ok _ hmt
  have hll : (pre ++ [q]).length = pre.length + 1 := by simp
  have hnb := nby_le _ (mt_mem _ hmt)
  have k1 : (upd (upd (upd (upd cnt 1 (cnt 1 + 1)) 2 (cnt 2 + nI Z)) 3 (cnt 3 + 1)) 9 (cnt 9 + nI (ndd (pre ++ [q])))) 1 = cnM (upd size p (nI Z)) := by
    rw [pk_un (by omega), pk_un (by omega), pk_un (by omega), pk_us, hc.1, x.c1_]
  have k2 : (upd (upd (upd (upd cnt 1 (cnt 1 + 1)) 2 (cnt 2 + nI Z)) 3 (cnt 3 + 1)) 9 (cnt 9 + nI (ndd (pre ++ [q])))) 2 = flM (upd size p (nI Z)) := by
    rw [pk_un (by omega), pk_un (by omega), pk_us, hc.2, x.c2_]
  have k3 : (upd (upd (upd (upd cnt 1 (cnt 1 + 1)) 2 (cnt 2 + nI Z)) 3 (cnt 3 + 1)) 9 (cnt 9 + nI (ndd (pre ++ [q])))) 3 = trl + 1 := by
    rw [pk_un (by omega), pk_us, x.c3_]
  have k9 : (upd (upd (upd (upd cnt 1 (cnt 1 + 1)) 2 (cnt 2 + nI Z)) 3 (cnt 3 + 1)) 9 (cnt 9 + nI (ndd (pre ++ [q])))) 9 = dead + nI (ndd (pre ++ [q])) := by
    rw [pk_us, x.c9_]
  have ko : ∀ i, i ≠ 1 → i ≠ 2 → i ≠ 3 → i ≠ 9 → (upd (upd (upd (upd cnt 1 (cnt 1 + 1)) 2 (cnt 2 + nI Z)) 3 (cnt 3 + 1)) 9 (cnt 9 + nI (ndd (pre ++ [q])))) i = cnt i := by
    intro i a b c d
    rw [pk_un d, pk_un c, pk_un b, pk_un a]
  have kt1 : trl + 1 = nI (T + 1) := by rw [ht1, nI_1]
  have kt2 : trn + 1 = nI (T + 1) := by rw [ht2, nI_1]
  have kbl : blocks + 1 = cn (upd ser p (trl + 1)) := by rw [cn_ins hp hs hk0, hbl]
  have kfi : filled + siz p = fl (upd ser p (trl + 1)) siz := by
    have e1 : siz = upd siz p (siz p) := by
      funext i
      by_cases e : i = p
      · subst e; rw [pk_us]
      · rw [pk_un e]
    have e2 := fl_ins (siz := siz) (z := siz p) hp hs hk0
    rw [← e1] at e2
    rw [e2, hfi]
  have hh : ∀ i, i < 256 → PB mem code lenC beh siz (upd ser p (trl + 1)) (upd (upd exP (2 * p) (if leaB q.1 = true ∧ bytB q.1 = 2 then nI q.2 else -1)) (2 * p + 1) (if kC q.1 = 24 ∨ kC q.1 = 29 ∨ leaB q.1 = false then beh p else -1)) (upd (upd lnk (2 * p) 0) (2 * p + 1) 0) (upd size p (nI Z)) (upd len p (nI (pre ++ [q]).length)) (upd pages p (nI P)) (upd which p (trn + 1)) (upd (upd exA (2 * p) (-1)) (2 * p + 1) (-1)) exT (if i = p then pre ++ [q] else ls i) (T + 1) i := by
    intro i hi
    by_cases e : i = p
    · subst e
      rw [if_pos rfl]
      right
      refine ⟨by simp, h8, hmt, fun a b c d => hed a b c (hl.trans d), hle, pk_us, hbe, hcw, ⟨Z, hZ1, hZ4, hsz, pk_us⟩, ⟨T + 1, by omega, Nat.le_refl _, by rw [pk_us, ht1, nI_1], by rw [pk_us, ht2, nI_1]⟩, fun g hg => ?_, fun a b c => ?_, ⟨fun t ht => ?_, fun _ => pk_us, Or.inl ?_, Or.inl pk_us⟩⟩
      · rw [tch_n hi (by omega) (by omega) hg hbe, ← pg_span hi (by omega) (by omega), ← hPb g hg]
        unfold mtc
        rw [pk_us]
        exact pg_bit P hP ⟨g, hg⟩
      · have := List.append_inj' c rfl
        have hq : q = b := by have := this.2; injection this
        subst hq
        rw [pk_us, pk_un (by omega), pk_us, hbe]
        exact ⟨rfl, rfl⟩
      · left
        unfold lcF lmF
        obtain ⟨tn, tn1, tn2⟩ := ht
        have hne : ¬ (-1 : Int32) = t := fun z => nI_ne_m1 (n := tn) (by omega) (tn2.symm.trans z.symm)
        have x1 : upd (upd lnk (2 * i) 0) (2 * i + 1) 0 (2 * i) = 0 := by rw [pk_un (by omega), pk_us]
        have x2 : upd (upd lnk (2 * i) 0) (2 * i + 1) 0 (2 * i + 1) = 0 := pk_us
        have x3 : upd (upd exA (2 * i) (-1)) (2 * i + 1) (-1) (2 * i) = -1 := by rw [pk_un (by omega), pk_us]
        have x4 : upd (upd exA (2 * i) (-1)) (2 * i + 1) (-1) (2 * i + 1) = -1 := pk_us
        rw [x1, x2, x3, x4, if_neg hne, if_neg hne]
        refine ⟨?_, rfl⟩
        generalize upd (upd exP (2 * i) _) (2 * i + 1) _ (2 * i) = y1
        generalize upd (upd exP (2 * i) _) (2 * i + 1) _ (2 * i + 1) = y2
        by_cases q1 : y1 = t
        · rw [if_pos q1]
        · rw [if_neg q1]
          by_cases q2 : y2 = t
          · rw [if_pos q2]
          · rw [if_neg q2]
      · rw [pk_un (by omega), pk_us]
    · rw [if_neg e]
      rcases hpb i hi with z | z
      · left
        rw [pk_un e, pk_un e]
        exact z
      · right
        have u2 : ∀ {g : Nat → Int32} {x y : Int32}, upd (upd g (2 * p) x) (2 * p + 1) y (2 * i) = g (2 * i) := by
          intro g x y
          rw [pk_un (by omega), pk_un (by omega)]
        have u3 : ∀ {g : Nat → Int32} {x y : Int32}, upd (upd g (2 * p) x) (2 * p + 1) y (2 * i + 1) = g (2 * i + 1) := by
          intro g x y
          rw [pk_un (by omega), pk_un (by omega)]
        exact z.cong (fun j a b => rfl) rfl rfl rfl (pk_un e) (pk_un e) (pk_un e) (pk_un e) (pk_un e) u2 u3 (z.lk.cong u2 u3 u2 u3 u2 u3 rfl rfl) (by omega)
  exact ⟨RX.in_ ⟨x.g_, x.bs_, x.br_, x.m_, x.mb_, x.wr_, x.q_, x.qb_, x.o_, x.gv_, x.ee_, x.rq_, x.lr_, (ko 0 (by omega) (by omega) (by omega) (by omega)).trans x.c0_, k1, k2, k3, (ko 4 (by omega) (by omega) (by omega) (by omega)).trans x.c4_, (ko 5 (by omega) (by omega) (by omega) (by omega)).trans x.c5_, (ko 6 (by omega) (by omega) (by omega) (by omega)).trans x.c6_, (ko 7 (by omega) (by omega) (by omega) (by omega)).trans x.c7_, (ko 8 (by omega) (by omega) (by omega) (by omega)).trans x.c8_, k9, (ko 10 (by omega) (by omega) (by omega) (by omega)).trans x.c10_, (ko 11 (by omega) (by omega) (by omega) (by omega)).trans x.c11_, kt1, kt2, hT, x.li_, kbl, kfi, hh, x.rf_⟩, by rw [pk_us]; exact hk0⟩
set_option maxRecDepth 20000 in
theorem hb68 {mem reg inp rq gvn size len pages which exA exT cnt ks : Nat → Int32} {rf im rm lr room trn kd by_ lb ov : Int32} {p Z P : Nat} {pre : List (Nat × Nat)} {q : Nat × Nat} (hp : p < 256) : fX5_hasBlock_b68 (rf, mem, reg, inp, im, rq, rm, lr, gvn, size, len, pages, which, exA, exT, room, trn, cnt, kd, by_, (nI (pre ++ [q]).length), (nI Z), (nI P), (nI (ndd (pre ++ [q]))), ks, lb, ov) (nI p) = some (1, (rf, mem, reg, inp, im, rq, rm, lr, gvn, (upd size p (nI Z)), (upd len p (nI (pre ++ [q]).length)), (upd pages p (nI P)), (upd which p (trn + 1)), (upd (upd exA (2 * p) (-1)) (2 * p + 1) (-1)), exT, room, (trn + 1), (upd (upd (upd (upd cnt 1 (cnt 1 + 1)) 2 (cnt 2 + nI Z)) 3 (cnt 3 + 1)) 9 (cnt 9 + nI (ndd (pre ++ [q])))), kd, by_, (nI (pre ++ [q]).length), (nI Z), (nI P), (nI (ndd (pre ++ [q]))), ks, lb, ov)) := by
  have e2 : (2 : Int32) * nI p = nI (2 * p) := pk_mul 2 p
  have e3 : nI (2 * p) + 1 = nI (2 * p + 1) := nI_1 _
  have g1 : ∀ {β : Type} (k : Option β), pIn (nI p) 256 k = k := fun k => pIn_n (by omega) (by omega)
  have g2 : ∀ {β : Type} (k : Option β), pIn (nI (2 * p)) 512 k = k := fun k => pIn_n (by omega) (by omega)
  have g3 : ∀ {β : Type} (k : Option β), pIn (nI (2 * p + 1)) 512 k = k := fun k => pIn_n (by omega) (by omega)
  have c1 : (nI p).toNatClampNeg = p := cl_n (by omega)
  have c2 : (nI (2 * p)).toNatClampNeg = 2 * p := cl_n (by omega)
  have c3 : (nI (2 * p + 1)).toNatClampNeg = 2 * p + 1 := cl_n (by omega)
  rw [fX5_hasBlock_b68]
  simp only [-Int32.reduceToNatClampNeg, pLet_e, e2, e3, g1, g2, g3, c1, c2, c3, p12_1, p12_2, p12_3, p12_9, j1, j2, j3, j9]
  rfl

/-! exits and links -/
abbrev SL (exP exA : Nat → Int32) (p x y : Nat) (t : Int32) : Prop :=
  ((x = 2 * p ∧ exP (2 * p) = t) ∨ (x = 2 * p + 1 ∧ exP (2 * p + 1) = t ∧ ¬ exP (2 * p) = t)) ∧
  ((y = 2 * p ∧ exA (2 * p) = t) ∨ (y = 2 * p + 1 ∧ exA (2 * p + 1) = t ∧ ¬ exA (2 * p) = t))
theorem SL.x {exP exA : Nat → Int32} {p x y : Nat} {t : Int32} (h_ : SL exP exA p x y t) : (x = 2 * p ∧ exP (2 * p) = t) ∨ (x = 2 * p + 1 ∧ exP (2 * p + 1) = t ∧ ¬ exP (2 * p) = t) := h_.1
theorem SL.y {exP exA : Nat → Int32} {p x y : Nat} {t : Int32} (h_ : SL exP exA p x y t) : (y = 2 * p ∧ exA (2 * p) = t) ∨ (y = 2 * p + 1 ∧ exA (2 * p + 1) = t ∧ ¬ exA (2 * p) = t) := h_.2
def XS (B : TB) (M : TM) : Prop := (gB_exit B = -1 ∧ gM_leftBy M = -1) ∨ ∃ p x y t, p < 256 ∧ isB t ∧ gB_exit B = nI x ∧ gM_leftBy M = nI y ∧ x / 2 = p ∧ y / 2 = p ∧ ¬ gC_serial (gB_cache B) p = 0 ∧ SL (gC_exitPlace (gB_cache B)) (gM_exitAt M) p x y t
def XW (B : TB) (M : TM) : Prop := (gB_exit B = -1 ∧ gM_leftBy M = -1) ∨ ∃ p x y t, p < 256 ∧ isB t ∧ gB_exit B = nI x ∧ gM_leftBy M = nI y ∧ x / 2 = p ∧ y / 2 = p ∧ (gC_serial (gB_cache B) p = 0 ∨ SL (gC_exitPlace (gB_cache B)) (gM_exitAt M) p x y t)
theorem XS.w {B : TB} {M : TM} (h : XS B M) : XW B M := by
  rcases h with h | ⟨p, x, y, t, h1, h2, h3, h4, h5, h6, h7, h8⟩
  · exact Or.inl h
  · exact Or.inr ⟨p, x, y, t, h1, h2, h3, h4, h5, h6, Or.inr h8⟩
theorem SL.lc {exP exA lnk exT : Nat → Int32} {p x y : Nat} {t : Int32} (h : SL exP exA p x y t) : lcF exP lnk p t = lnk x ∧ lmF exA exT p t = exT y := by
  unfold lcF lmF
  constructor
  · rcases h.x with ⟨a, b⟩ | ⟨a, b, c⟩
    · rw [if_pos b, a]
    · rw [if_neg c, if_pos b, a]
  · rcases h.y with ⟨a, b⟩ | ⟨a, b, c⟩
    · rw [if_pos b, a]
    · rw [if_neg c, if_pos b, a]
theorem SL.lk {exP exA lnk exT : Nat → Int32} {p x y : Nat} {t v : Int32} (h : SL exP exA p x y t) (k : LK exP lnk exA exT p) : LK exP (upd lnk x v) exA (upd exT y v) p := by
  refine ⟨fun s hs => ?_, k.b, k.c, k.d⟩
  by_cases e : s = t
  · subst e
    right
    have := h.lc (lnk := upd lnk x v) (exT := upd exT y v)
    rw [this.1, this.2, pk_us, pk_us]
  · have h1 : lcF exP (upd lnk x v) p s = lcF exP lnk p s := by
      unfold lcF
      rcases h.x with ⟨a, b⟩ | ⟨a, b, c⟩
      · rw [a, pk_un (show 2 * p + 1 ≠ 2 * p by omega), b, if_neg (fun z : t = s => e z.symm), if_neg (fun z : t = s => e z.symm)]
      · rw [a, pk_un (show 2 * p ≠ 2 * p + 1 by omega), b, if_neg (fun z : t = s => e z.symm), if_neg (fun z : t = s => e z.symm)]
    have h2 : lmF exA (upd exT y v) p s = lmF exA exT p s := by
      unfold lmF
      rcases h.y with ⟨a, b⟩ | ⟨a, b, c⟩
      · rw [a, pk_un (show 2 * p + 1 ≠ 2 * p by omega), b, if_neg (fun z : t = s => e z.symm), if_neg (fun z : t = s => e z.symm)]
      · rw [a, pk_un (show 2 * p ≠ 2 * p + 1 by omega), b, if_neg (fun z : t = s => e z.symm), if_neg (fun z : t = s => e z.symm)]
    rw [h1, h2]
    exact k.a s hs
theorem il_both {f : Bool} {e T : Nat} {ls : Nat → List (Nat × Nat)} {B : TB} {M : TM} (h : RS f e T ls B M) (hx : XS B M) {p : Nat} (hp : p < 256) :
    ∃ r : Int32, (r = 0 ∨ r = 1) ∧ fX0_isLinked (gB_cache B) (gB_exit B) (nI p) = some r ∧ fX5_isLinked M (nI p) = some r ∧ (r = 1 → ¬ gC_serial (gB_cache B) p = 0) := by
  rw [fX0_isLinked_e, fX5_isLinked_e]
  rcases hx with ⟨h1, h2⟩ | ⟨p0, x, y, t, h1, h2, h3, h4, h5, h6, h7, h8⟩
  · rw [h1, h2]
    exact ⟨0, Or.inl rfl, if_pos rfl, if_pos (by decide), fun z => absurd z (by decide)⟩
  · rw [h3, h4, if_neg (nI_ne_m1 (by omega)), if_neg (show ¬ nI y < 0 from nI_nlt (b := 0) (by omega) (by omega)), has_e hp, pB_e2]
    have g1 : ∀ {β : Type} (k : Option β), pIn (nI p) 256 k = k := fun k => pIn_n (by omega) (by omega)
    have gx : ∀ {β : Type} (k : Option β), pIn (nI x) 512 k = k := fun k => pIn_n (by omega) (by omega)
    have gy : ∀ {β : Type} (k : Option β), pIn (nI y) 512 k = k := fun k => pIn_n (by omega) (by omega)
    have q1 : (nI p).toNatClampNeg = p := cl_n (by omega)
    have q2 : (nI x).toNatClampNeg = x := cl_n (by omega)
    have q3 : (nI y).toNatClampNeg = y := cl_n (by omega)
    simp only [g1, gx, gy, q1, q2, q3]
    have hpb := h.pb p hp
    have hif := hpb.iff h.tb
    by_cases hs : gC_serial (gB_cache B) p = 0
    · rw [if_pos hs, if_pos rfl, if_pos (hif.mp hs)]
      exact ⟨0, Or.inl rfl, rfl, rfl, fun z => absurd z (by decide)⟩
    · rw [if_neg hs, if_neg (show ¬ (1 : Int32) = 0 by decide), if_neg (fun z => hs (hif.mpr z))]
      have hq := (h.pb p0 h1).of h7
      have hk := hq.lk.a t h2
      have hlc := h8.lc (lnk := gC_linkedSerial (gB_cache B)) (exT := gM_exitTo M)
      rw [hlc.1, hlc.2] at hk
      obtain ⟨k, k1, k2, k3, k4⟩ := (hpb.of hs).se
      have htb := h.tb
      rw [k3, k4]
      rcases hk with ⟨a, b⟩ | a
      · rw [a, b, if_neg (show ¬ (0 : Int32) = nI k from fun z => by have := nI_inj (a := 0) (by omega) (by omega) z; omega), if_neg (fun z => nI_ne_m1 (n := k) (by omega) z.symm)]
        exact ⟨0, Or.inl rfl, rfl, rfl, fun z => absurd z (by decide)⟩
      · rw [a]
        by_cases q : gM_exitTo M y = nI k
        · rw [if_pos q]
          exact ⟨1, Or.inr rfl, rfl, rfl, fun _ => fun z => by have := nI_inj (b := 0) (by omega) (by omega) z; omega⟩
        · rw [if_neg q]
          exact ⟨0, Or.inl rfl, rfl, rfl, fun z => absurd z (by decide)⟩
set_option maxRecDepth 20000 in
theorem link_rs {mem reg inp rq gvn size len pages which exA exT cnt ks : Nat → Int32} {rf im rm lr room trn kd by_ fm fs fp fd lb ov : Int32} {st outs code lenC beh siz ser exP lnk : Nat → Int32} {iq rqq : TQ} {gv wr limit blocks filled trl fls dead lrq exe inv lku itp itr en ext : Int32} {f : Bool} {e T : Nat} {ls : Nat → List (Nat × Nat)} (h : RS f e T ls ((st, mem, iq, outs, gv, wr), (code, lenC, beh, siz, ser, exP, lnk, limit, blocks, filled, trl, fls, dead), rqq, lrq, exe, inv, lku, itp, itr, en, ext) (rf, mem, reg, inp, im, rq, rm, lr, gvn, size, len, pages, which, exA, exT, room, trn, cnt, kd, by_, fm, fs, fp, fd, ks, lb, ov)) {p x y k : Nat} {t v : Int32} (hp : p < 256) (hx2 : x / 2 = p) (hy2 : y / 2 = p) (hsl : SL exP exA p x y t) : RS f e T ls ((st, mem, iq, outs, gv, wr), (code, lenC, beh, siz, ser, exP, (upd lnk x v), limit, blocks, filled, trl, fls, dead), rqq, lrq, exe, inv, lku, itp, itr, en, ext) (rf, mem, reg, inp, im, rq, rm, lr, gvn, size, len, pages, which, exA, (upd exT y v), room, trn, cnt, kd, by_, fm, fs, fp, fd, ks, lb, ov) := by
  have x' := h.out
  have hpb : ∀ i, i < 256 → PB mem code lenC beh siz ser exP lnk size len pages which exA exT (ls i) T i := x'.pb_
  have hh : ∀ i, i < 256 → PB mem code lenC beh siz ser exP (upd lnk x v) size len pages which exA (upd exT y v) (ls i) T i := by
    intro i hi
    rcases hpb i hi with q | q
    · exact Or.inl q
    · right
      by_cases e : i = p
      · subst e
        exact q.cong (fun _ _ _ => rfl) rfl rfl rfl rfl rfl rfl rfl rfl rfl rfl (hsl.lk q.lk) (Nat.le_refl T)
      · exact q.cong (fun _ _ _ => rfl) rfl rfl rfl rfl rfl rfl rfl rfl rfl rfl (q.lk.cong rfl rfl (pk_un (by omega)) (pk_un (by omega)) rfl rfl (pk_un (by omega)) (pk_un (by omega))) (Nat.le_refl T)
  exact RX.in_ ⟨x'.g_, x'.bs_, x'.br_, x'.m_, x'.mb_, x'.wr_, x'.q_, x'.qb_, x'.o_, x'.gv_, x'.ee_, x'.rq_, x'.lr_, x'.c0_, x'.c1_, x'.c2_, x'.c3_, x'.c4_, x'.c5_, x'.c6_, x'.c7_, x'.c8_, x'.c9_, x'.c10_, x'.c11_, x'.t1_, x'.t2_, x'.tb_, x'.li_, x'.bl_, x'.fi_, hh, x'.rf_⟩
set_option maxRecDepth 20000 in
theorem lb_rs {mem reg inp rq gvn size len pages which exA exT cnt ks : Nat → Int32} {rf im rm lr room trn kd by_ fm fs fp fd lb ov : Int32} {st outs code lenC beh siz ser exP lnk : Nat → Int32} {iq rqq : TQ} {gv wr limit blocks filled trl fls dead lrq exe inv lku itp itr en ext : Int32} {f : Bool} {e T : Nat} {ls : Nat → List (Nat × Nat)} {ext' lb' ov' : Int32} (h : RS f e T ls ((st, mem, iq, outs, gv, wr), (code, lenC, beh, siz, ser, exP, lnk, limit, blocks, filled, trl, fls, dead), rqq, lrq, exe, inv, lku, itp, itr, en, ext) (rf, mem, reg, inp, im, rq, rm, lr, gvn, size, len, pages, which, exA, exT, room, trn, cnt, kd, by_, fm, fs, fp, fd, ks, lb, ov)) : RS f e T ls ((st, mem, iq, outs, gv, wr), (code, lenC, beh, siz, ser, exP, lnk, limit, blocks, filled, trl, fls, dead), rqq, lrq, exe, inv, lku, itp, itr, en, ext') (rf, mem, reg, inp, im, rq, rm, lr, gvn, size, len, pages, which, exA, exT, room, trn, cnt, kd, by_, fm, fs, fp, fd, ks, lb', ov') := by
  have x := h.out
  exact RX.in_ ⟨x.g_, x.bs_, x.br_, x.m_, x.mb_, x.wr_, x.q_, x.qb_, x.o_, x.gv_, x.ee_, x.rq_, x.lr_, x.c0_, x.c1_, x.c2_, x.c3_, x.c4_, x.c5_, x.c6_, x.c7_, x.c8_, x.c9_, x.c10_, x.c11_, x.t1_, x.t2_, x.tb_, x.li_, x.bl_, x.fi_, x.pb_, x.rf_⟩
set_option maxRecDepth 20000 in
theorem link_both {f : Bool} {e T : Nat} {ls : Nat → List (Nat × Nat)} {B : TB} {M : TM} (h : RS f e T ls B M) (hx : XW B M) {p : Nat} (hp : p < 256) (hs : ¬ gC_serial (gB_cache B) p = 0) :
    ∃ (C' : TC) (M' : TM), fX0_link (gB_cache B) (gB_exit B) (nI p) = some C' ∧ fX5_runBlock M (nI p) = fX5_runBlock_b38 M' (nI p) (gM_which M p) ∧ RS f e T ls (sB_cache B C') M' ∧ ¬ gC_serial C' p = 0 ∧ gM_which M' = gM_which M ∧ gM_isOver M' = gM_isOver M ∧ gM_reg M' = gM_reg M := by
  obtain ⟨⟨st, mem, iq, outs, gv, wr⟩, ⟨code, lenC, beh, siz, ser, exP, lnk, limit, blocks, filled, trl, fls, dead⟩, rqq, lrq, exe, inv, lku, itp, itr, en, ext⟩ := B
  obtain ⟨rf, memM, reg, inp, im, rq, rm, lr, gvn, size, len, pages, which, exA, exT, room, trn, cnt, kd, by_, fm, fs, fp, fd, ks, lb, ov⟩ := M
  have hm : mem = memM := h.m
  subst hm
  have g1 : ∀ {β : Type} (k : Option β), pIn (nI p) 256 k = k := fun k => pIn_n (by omega) (by omega)
  have q1 : (nI p).toNatClampNeg = p := cl_n (by omega)
  rcases hx with ⟨h1, h2⟩ | ⟨p0, x, y, t, h1, h2, h3, h4, h5, h6, h7⟩
  · have h1 : ext = -1 := h1
    have h2 : lb = -1 := h2
    refine ⟨_, _, ?_, ?_, h, hs, rfl, rfl, rfl⟩
    · rw [fX0_link_e, if_pos (show gB_exit ((st, mem, iq, outs, gv, wr), (code, lenC, beh, siz, ser, exP, lnk, limit, blocks, filled, trl, fls, dead), rqq, lrq, exe, inv, lku, itp, itr, en, ext) = -1 from h1)]; rfl
    · rw [fX5_runBlock_e, g1, q1, pLet_e, if_pos (show gM_leftBy (rf, mem, reg, inp, im, rq, rm, lr, gvn, size, len, pages, which, exA, exT, room, trn, cnt, kd, by_, fm, fs, fp, fd, ks, lb, ov) < 0 by show lb < 0; rw [h2]; decide)]
  · have h3 : ext = nI x := h3
    have h4 : lb = nI y := h4
    have h7 : ser p0 = 0 ∨ SL exP exA p0 x y t := h7
    have hpb := h.pb p0 h1
    have hif : ser p0 = 0 ↔ size p0 ≤ 0 := hpb.iff h.tb
    have dx : nI x / 2 = nI p0 := by
      rw [show (2 : Int32) = nI 2 from rfl, pk_div (by omega) (by omega) (by omega), h5]
    have dy : nI y / 2 = nI p0 := by
      rw [show (2 : Int32) = nI 2 from rfl, pk_div (by omega) (by omega) (by omega), h6]
    by_cases hs0 : ser p0 = 0
    · refine ⟨_, _, ?_, ?_, h, hs, rfl, rfl, rfl⟩
      · rw [fX0_link_e, show gB_exit ((st, mem, iq, outs, gv, wr), (code, lenC, beh, siz, ser, exP, lnk, limit, blocks, filled, trl, fls, dead), rqq, lrq, exe, inv, lku, itp, itr, en, ext) = nI x from h3, if_neg (nI_ne_m1 (by omega)), dx, has_e h1, pB_e2, if_pos (show gC_serial (gB_cache ((st, mem, iq, outs, gv, wr), (code, lenC, beh, siz, ser, exP, lnk, limit, blocks, filled, trl, fls, dead), rqq, lrq, exe, inv, lku, itp, itr, en, ext)) p0 = 0 from hs0), if_pos rfl]; rfl
      · rw [fX5_runBlock_e, g1, q1, pLet_e, show gM_leftBy (rf, mem, reg, inp, im, rq, rm, lr, gvn, size, len, pages, which, exA, exT, room, trn, cnt, kd, by_, fm, fs, fp, fd, ks, lb, ov) = nI y from h4, if_neg (show ¬ nI y < 0 from nI_nlt (b := 0) (by omega) (by omega)), dy, pIn_n h1 (by omega), cl_n (by omega), if_pos (show gM_size (rf, mem, reg, inp, im, rq, rm, lr, gvn, size, len, pages, which, exA, exT, room, trn, cnt, kd, by_, fm, fs, fp, fd, ks, lb, ov) p0 ≤ 0 from hif.mp hs0)]
    · have hsl := h7.resolve_left hs0
      obtain ⟨k, k1, k2, k3, k4⟩ := ((h.pb p hp).of hs).se
      have k3 : ser p = nI k := k3
      have k4 : which p = nI k := k4
      have hl := link_rs (v := nI k) h h1 h5 h6 hsl (k := 0)
      refine ⟨(code, lenC, beh, siz, ser, exP, upd lnk x (nI k), limit, blocks, filled, trl, fls, dead), (rf, mem, reg, inp, im, rq, rm, lr, gvn, size, len, pages, which, exA, (upd exT y (nI k)), room, trn, cnt, kd, by_, fm, fs, fp, fd, ks, lb, ov), ?_, ?_, hl, hs, Eq.refl which, Eq.refl ov, Eq.refl reg⟩
      · rw [fX0_link_e, show gB_exit ((st, mem, iq, outs, gv, wr), (code, lenC, beh, siz, ser, exP, lnk, limit, blocks, filled, trl, fls, dead), rqq, lrq, exe, inv, lku, itp, itr, en, ext) = nI x from h3, if_neg (nI_ne_m1 (by omega)), dx, has_e h1, pB_e2, if_neg (show ¬ gC_serial (gB_cache ((st, mem, iq, outs, gv, wr), (code, lenC, beh, siz, ser, exP, lnk, limit, blocks, filled, trl, fls, dead), rqq, lrq, exe, inv, lku, itp, itr, en, ext)) p0 = 0 from hs0), if_neg (show ¬ (1 : Int32) = 0 by decide), g1, pIn_n (by omega) (by omega), cl_n (by omega), q1, pLet_e, show gC_serial (gB_cache ((st, mem, iq, outs, gv, wr), (code, lenC, beh, siz, ser, exP, lnk, limit, blocks, filled, trl, fls, dead), rqq, lrq, exe, inv, lku, itp, itr, en, ext)) p = nI k from k3]
        rfl
      · rw [fX5_runBlock_e, g1, q1, pLet_e, show gM_leftBy (rf, mem, reg, inp, im, rq, rm, lr, gvn, size, len, pages, which, exA, exT, room, trn, cnt, kd, by_, fm, fs, fp, fd, ks, lb, ov) = nI y from h4, if_neg (show ¬ nI y < 0 from nI_nlt (b := 0) (by omega) (by omega)), dy, pIn_n h1 (by omega), cl_n (by omega), if_neg (show ¬ gM_size (rf, mem, reg, inp, im, rq, rm, lr, gvn, size, len, pages, which, exA, exT, room, trn, cnt, kd, by_, fm, fs, fp, fd, ks, lb, ov) p0 ≤ 0 from fun z => hs0 (hif.mpr z)), pIn_n (by omega) (by omega), cl_n (by omega), pLet_e, show gM_which (rf, mem, reg, inp, im, rq, rm, lr, gvn, size, len, pages, which, exA, exT, room, trn, cnt, kd, by_, fm, fs, fp, fd, ks, lb, ov) p = nI k from k4]
        rfl
set_option maxRecDepth 20000 in
theorem leave_rs {mem reg inp rq gvn size len pages which exA exT cnt ks : Nat → Int32} {rf im rm lr room trn kd by_ fm fs fp fd lb ov : Int32} {st outs code lenC beh siz ser exP lnk : Nat → Int32} {iq rqq : TQ} {gv wr limit blocks filled trl fls dead lrq exe inv lku itp itr en ext : Int32} {f : Bool} {e T : Nat} {ls : Nat → List (Nat × Nat)} (h : RS f e T ls ((st, mem, iq, outs, gv, wr), (code, lenC, beh, siz, ser, exP, lnk, limit, blocks, filled, trl, fls, dead), rqq, lrq, exe, inv, lku, itp, itr, en, ext) (rf, mem, reg, inp, im, rq, rm, lr, gvn, size, len, pages, which, exA, exT, room, trn, cnt, kd, by_, fm, fs, fp, fd, ks, lb, ov)) {p y : Nat} {t : Int32} (hp : p < 256) (ht : isB t) (htt : exP (2 * p) = t ∨ exP (2 * p + 1) = t) (hs : ¬ ser p = 0) (hy : (y = 2 * p ∧ exA (2 * p) = -1) ∨ (y = 2 * p + 1 ∧ isB (exA (2 * p)) ∧ ¬ exA (2 * p) = t ∧ exA (2 * p + 1) = -1)) : RS f e T ls ((st, mem, iq, outs, gv, wr), (code, lenC, beh, siz, ser, exP, lnk, limit, blocks, filled, trl, fls, dead), rqq, lrq, exe, inv, lku, itp, itr, en, ext) (rf, mem, reg, inp, im, rq, rm, lr, gvn, size, len, pages, which, (upd exA y t), (upd exT y (-1)), room, trn, cnt, kd, by_, fm, fs, fp, fd, ks, lb, ov) := by
  have x := h.out
  have hpb : ∀ i, i < 256 → PB mem code lenC beh siz ser exP lnk size len pages which exA exT (ls i) T i := x.pb_
  have htn : ¬ (-1 : Int32) = t := by
    obtain ⟨tn, tn1, tn2⟩ := ht
    exact fun z => nI_ne_m1 (n := tn) (by omega) (tn2.symm.trans z.symm)
  have htt2 : t = exP (2 * p) ∨ t = exP (2 * p + 1) := htt.imp Eq.symm Eq.symm
  have hh : ∀ i, i < 256 → PB mem code lenC beh siz ser exP lnk size len pages which (upd exA y t) (upd exT y (-1)) (ls i) T i := by
    intro i hi
    rcases hpb i hi with q | q
    · exact Or.inl q
    · right
      by_cases e : i = p
      · subst e
        refine q.cong (fun _ _ _ => rfl) rfl rfl rfl rfl rfl rfl rfl rfl rfl rfl ?_ (Nat.le_refl T)
        have k := q.lk
        rcases hy with ⟨a, b⟩ | ⟨a, b, c, d⟩
        · subst a
          have b2 := k.b b
          have n1 : upd exA (2 * i) t (2 * i + 1) = -1 := by rw [pk_un (by omega)]; exact b2
          refine ⟨fun s hs2 => ?_, fun z => ?_, ?_, ?_⟩
          · have := k.a s hs2
            have hsn : ¬ (-1 : Int32) = s := by
              obtain ⟨tn, tn1, tn2⟩ := hs2
              exact fun z => nI_ne_m1 (n := tn) (by omega) (tn2.symm.trans z.symm)
            have l1 : lmF exA exT i s = -1 := by
              unfold lmF
              rw [b, b2, if_neg hsn, if_neg hsn]
            have l2 : lmF (upd exA (2 * i) t) (upd exT (2 * i) (-1)) i s = -1 := by
              unfold lmF
              rw [pk_us, pk_us, n1, if_neg hsn]
              split <;> rfl
            rw [l1] at this
            rw [l2]
            exact this
          · rw [pk_us] at z
            exact absurd z.symm htn
          · right
            rw [pk_us]
            exact ⟨ht, htt2⟩
          · left; exact n1
        · subst a
          have n0 : upd exA (2 * i + 1) t (2 * i) = exA (2 * i) := pk_un (by omega)
          have m0 : upd exT (2 * i + 1) (-1) (2 * i) = exT (2 * i) := pk_un (by omega)
          refine ⟨fun s hs2 => ?_, fun z => ?_, ?_, ?_⟩
          · have := k.a s hs2
            have hsn : ¬ (-1 : Int32) = s := by
              obtain ⟨tn, tn1, tn2⟩ := hs2
              exact fun z => nI_ne_m1 (n := tn) (by omega) (tn2.symm.trans z.symm)
            have l1 : lmF (upd exA (2 * i + 1) t) (upd exT (2 * i + 1) (-1)) i s = lmF exA exT i s := by
              unfold lmF
              rw [n0, m0, pk_us, pk_us, d, if_neg hsn]
              split
              · rfl
              · split <;> rfl
            rw [l1]
            exact this
          · rw [n0] at z
            obtain ⟨tn, tn1, tn2⟩ := b
            exact absurd (tn2.symm.trans z) (nI_ne_m1 (by omega))
          · rw [n0]; exact k.c
          · right
            rw [n0, pk_us]
            exact ⟨ht, fun z => c z.symm, htt2⟩
      · exact q.cong (fun _ _ _ => rfl) rfl rfl rfl rfl rfl rfl rfl rfl rfl rfl (q.lk.cong rfl rfl rfl rfl (pk_un (by omega)) (pk_un (by omega)) (pk_un (by omega)) (pk_un (by omega))) (Nat.le_refl T)
  exact RX.in_ ⟨x.g_, x.bs_, x.br_, x.m_, x.mb_, x.wr_, x.q_, x.qb_, x.o_, x.gv_, x.ee_, x.rq_, x.lr_, x.c0_, x.c1_, x.c2_, x.c3_, x.c4_, x.c5_, x.c6_, x.c7_, x.c8_, x.c9_, x.c10_, x.c11_, x.t1_, x.t2_, x.tb_, x.li_, x.bl_, x.fi_, hh, x.rf_⟩
set_option maxRecDepth 20000 in
theorem leave_both {f : Bool} {e T : Nat} {ls : Nat → List (Nat × Nat)} {B : TB} {M : TM} (h : RS f e T ls B M) {p : Nat} {t : Int32} (hp : p < 256) (hs : ¬ gC_serial (gB_cache B) p = 0) (ht : isB t) (htt : gC_exitPlace (gB_cache B) (2 * p) = t ∨ gC_exitPlace (gB_cache B) (2 * p + 1) = t) :
    ∃ (x : Int32) (M' : TM), fX0_exitTo (gB_cache B) (nI p) t = some x ∧ fX5_leave M (nI p) t = some M' ∧ RS f e T ls (sB_exit B x) M' ∧ XS (sB_exit B x) M' ∧ gM_isOver M' = gM_isOver M ∧ gM_reg M' = gM_reg M := by
  obtain ⟨⟨st, mem, iq, outs, gv, wr⟩, ⟨code, lenC, beh, siz, ser, exP, lnk, limit, blocks, filled, trl, fls, dead⟩, rqq, lrq, exe, inv, lku, itp, itr, en, ext⟩ := B
  obtain ⟨rf, memM, reg, inp, im, rq, rm, lr, gvn, size, len, pages, which, exA, exT, room, trn, cnt, kd, by_, fm, fs, fp, fd, ks, lb, ov⟩ := M
  have hm : mem = memM := h.m
  subst hm
  have hs : ¬ ser p = 0 := hs
  have htt : exP (2 * p) = t ∨ exP (2 * p + 1) = t := htt
  have x := h.out
  have hq := (x.pb_ p hp).of hs
  have k := hq.lk
  have e2 : (2 : Int32) * nI p = nI (2 * p) := pk_mul 2 p
  have e3 : nI (2 * p) + 1 = nI (2 * p + 1) := nI_1 _
  obtain ⟨xn, hxn, hxe⟩ : ∃ xn, ((xn = 2 * p ∧ exP (2 * p) = t) ∨ (xn = 2 * p + 1 ∧ exP (2 * p + 1) = t ∧ ¬ exP (2 * p) = t)) ∧ fX0_exitTo (gB_cache ((st, mem, iq, outs, gv, wr), (code, lenC, beh, siz, ser, exP, lnk, limit, blocks, filled, trl, fls, dead), rqq, lrq, exe, inv, lku, itp, itr, en, ext)) (nI p) t = some (nI xn) := by
    rw [fX0_exitTo_e, e2, e3, pIn_n (by omega) (by omega), cl_n (by omega), pIn_n (by omega) (by omega), cl_n (by omega)]
    by_cases q : exP (2 * p) = t
    · exact ⟨2 * p, Or.inl ⟨rfl, q⟩, if_pos q⟩
    · exact ⟨2 * p + 1, Or.inr ⟨rfl, htt.resolve_left q, q⟩, (if_neg q).trans (if_pos (htt.resolve_left q))⟩
  have b26 : ∀ y : Nat, y < 512 → fX5_leave_b26 (rf, mem, reg, inp, im, rq, rm, lr, gvn, size, len, pages, which, exA, exT, room, trn, cnt, kd, by_, fm, fs, fp, fd, ks, lb, ov) t (nI y) = if exA y = t then some (rf, mem, reg, inp, im, rq, rm, lr, gvn, size, len, pages, which, exA, exT, room, trn, cnt, kd, by_, fm, fs, fp, fd, ks, (nI y), ov) else some (rf, mem, reg, inp, im, rq, rm, lr, gvn, size, len, pages, which, (upd exA y t), (upd exT y (-1)), room, trn, cnt, kd, by_, fm, fs, fp, fd, ks, (nI y), ov) := by
    intro y hy
    rw [fX5_leave_b26_e, pIn_n hy (by omega), cl_n (by omega), pIn_n hy (by omega), pLet_e, pIn_n hy (by omega), pLet_e, fX5_leave_b50_e, pLet_e, fX5_leave_b50_e, pLet_e]
    rfl
  have hlv : fX5_leave (rf, mem, reg, inp, im, rq, rm, lr, gvn, size, len, pages, which, exA, exT, room, trn, cnt, kd, by_, fm, fs, fp, fd, ks, lb, ov) (nI p) t = if exA (2 * p) < 0 then fX5_leave_b26 (rf, mem, reg, inp, im, rq, rm, lr, gvn, size, len, pages, which, exA, exT, room, trn, cnt, kd, by_, fm, fs, fp, fd, ks, lb, ov) t (nI (2 * p)) else if exA (2 * p) = t then fX5_leave_b26 (rf, mem, reg, inp, im, rq, rm, lr, gvn, size, len, pages, which, exA, exT, room, trn, cnt, kd, by_, fm, fs, fp, fd, ks, lb, ov) t (nI (2 * p)) else fX5_leave_b26 (rf, mem, reg, inp, im, rq, rm, lr, gvn, size, len, pages, which, exA, exT, room, trn, cnt, kd, by_, fm, fs, fp, fd, ks, lb, ov) t (nI (2 * p + 1)) := by
    rw [fX5_leave_e, pLet_e, e2, pIn_n (by omega) (by omega), cl_n (by omega), pIn_n (by omega) (by omega), pLet_e, e3]
    rfl
  have fin : ∀ (y : Nat) (A X : Nat → Int32), (y = 2 * p ∧ A (2 * p) = t ∨ y = 2 * p + 1 ∧ A (2 * p + 1) = t ∧ ¬ A (2 * p) = t) → RS f e T ls ((st, mem, iq, outs, gv, wr), (code, lenC, beh, siz, ser, exP, lnk, limit, blocks, filled, trl, fls, dead), rqq, lrq, exe, inv, lku, itp, itr, en, ext) (rf, mem, reg, inp, im, rq, rm, lr, gvn, size, len, pages, which, A, X, room, trn, cnt, kd, by_, fm, fs, fp, fd, ks, lb, ov) → fX5_leave (rf, mem, reg, inp, im, rq, rm, lr, gvn, size, len, pages, which, exA, exT, room, trn, cnt, kd, by_, fm, fs, fp, fd, ks, lb, ov) (nI p) t = some (rf, mem, reg, inp, im, rq, rm, lr, gvn, size, len, pages, which, A, X, room, trn, cnt, kd, by_, fm, fs, fp, fd, ks, (nI y), ov) →
      ∃ (x : Int32) (M' : TM), fX0_exitTo (gB_cache ((st, mem, iq, outs, gv, wr), (code, lenC, beh, siz, ser, exP, lnk, limit, blocks, filled, trl, fls, dead), rqq, lrq, exe, inv, lku, itp, itr, en, ext)) (nI p) t = some x ∧ fX5_leave (rf, mem, reg, inp, im, rq, rm, lr, gvn, size, len, pages, which, exA, exT, room, trn, cnt, kd, by_, fm, fs, fp, fd, ks, lb, ov) (nI p) t = some M' ∧ RS f e T ls (sB_exit ((st, mem, iq, outs, gv, wr), (code, lenC, beh, siz, ser, exP, lnk, limit, blocks, filled, trl, fls, dead), rqq, lrq, exe, inv, lku, itp, itr, en, ext) x) M' ∧ XS (sB_exit ((st, mem, iq, outs, gv, wr), (code, lenC, beh, siz, ser, exP, lnk, limit, blocks, filled, trl, fls, dead), rqq, lrq, exe, inv, lku, itp, itr, en, ext) x) M' ∧ gM_isOver M' = gM_isOver (rf, mem, reg, inp, im, rq, rm, lr, gvn, size, len, pages, which, exA, exT, room, trn, cnt, kd, by_, fm, fs, fp, fd, ks, lb, ov) ∧ gM_reg M' = gM_reg (rf, mem, reg, inp, im, rq, rm, lr, gvn, size, len, pages, which, exA, exT, room, trn, cnt, kd, by_, fm, fs, fp, fd, ks, lb, ov) := by
    intro y A X hy hR hL
    exact ⟨nI xn, _, hxe, hL, lb_rs hR, Or.inr ⟨p, xn, y, t, hp, ht, rfl, rfl, by omega, by omega, hs, ⟨hxn, hy⟩⟩, Eq.refl ov, Eq.refl reg⟩
  have htb : ∃ tn, tn < 256 ∧ t = nI tn := ht
  rcases k.c with c | ⟨c, d⟩
  · rw [c, if_pos (show (-1 : Int32) < 0 by decide), b26 _ (by omega), if_neg (by rw [c]; obtain ⟨tn, t1, t2⟩ := htb; exact fun z => nI_ne_m1 (n := tn) (by omega) (t2.symm.trans z.symm))] at hlv
    exact fin _ _ _ (Or.inl ⟨rfl, pk_us⟩) (leave_rs h hp ht htt hs (Or.inl ⟨rfl, c⟩)) hlv
  · have hc0 : ¬ exA (2 * p) < 0 := by
      obtain ⟨cn_, c1, c2⟩ := c
      rw [c2]
      exact nI_nlt (b := 0) (by omega) (by omega)
    rw [if_neg hc0] at hlv
    by_cases q : exA (2 * p) = t
    · rw [if_pos q, b26 _ (by omega), if_pos q] at hlv
      exact fin _ _ _ (Or.inl ⟨rfl, q⟩) h hlv
    · rw [if_neg q, b26 _ (by omega)] at hlv
      by_cases q2 : exA (2 * p + 1) = t
      · rw [if_pos q2] at hlv
        exact fin _ _ _ (Or.inr ⟨rfl, q2, q⟩) h hlv
      · rw [if_neg q2] at hlv
        have hn1 : exA (2 * p + 1) = -1 := by
          rcases k.d with d2 | ⟨d2, d3, d4⟩
          · exact d2
          · exfalso
            rcases d with d | d <;> rcases d4 with d4 | d4 <;> rcases htt with z | z
            · exact d3 (d4.trans d.symm)
            · exact d3 (d4.trans d.symm)
            · exact q (d.trans z)
            · exact q2 (d4.trans z)
            · exact q2 (d4.trans z)
            · exact q (d.trans z)
            · exact d3 (d4.trans d.symm)
            · exact d3 (d4.trans d.symm)
        exact fin _ _ _ (Or.inr ⟨rfl, pk_us, fun z => q ((pk_un (by omega)).symm.trans z)⟩) (leave_rs h hp ht htt hs (Or.inr ⟨rfl, c, q, hn1⟩)) hlv

/-! requests -/
def hits (arr : Nat → Int32) (a b : Int32) : Nat → Nat → Bool
  | 0, _ => false
  | n + 1, i => (decide (¬ arr i ≤ a) && decide (¬ b < arr i)) || hits arr a b n (i + 1)
theorem rc_c {B : TB} {arr : Nat → Int32} {x : Int32} {k : Nat} (hk : k ≤ 16) (hq : QR 16 (gB_requests B) arr (nI k)) (hm : gQ_many (gB_requests B) = nI k) : ∀ (n fu i : Nat), i + n = k → n < fu → fX4_requestComes_b2 fu B x (nI i) = some (bI (hits arr (gB_executed B) x n i)) := by
  intro n
  induction n with
  | zero =>
    intro fu i h1 h2
    obtain ⟨fu, rfl⟩ : ∃ f, fu = f + 1 := ⟨fu - 1, by omega⟩
    rw [fX4_requestComes_b2, hm, if_pos (nI_le (by omega) (by omega))]
    rfl
  | succ n ih =>
    intro fu i h1 h2
    obtain ⟨fu, rfl⟩ : ∃ f, fu = f + 1 := ⟨fu - 1, by omega⟩
    rw [fX4_requestComes_b2, hm, if_neg (nI_ge (by omega) (by omega)), qr_at (by omega) hq (by omega) (by omega), pB_e2, fX4_requestComes_b37_e, pLet_e, nI_1, ih fu (i + 1) (by omega) (by omega)]
    simp only [hits]
    by_cases h3 : arr i ≤ gB_executed B
    · rw [if_pos h3]
      simp [h3]
    · rw [if_neg h3]
      by_cases h4 : x < arr i
      · rw [if_pos h4]
        simp [h4]
      · rw [if_neg h4]
        simp [h3, h4]
        rfl
theorem rc_m {M : TM} {x : Int32} {k : Nat} (hk : k ≤ 16) (hm : gM_requestMany M = nI k) : ∀ (n fu i : Nat) (m : Bool), i + n = k → n < fu → fX5_isDisturbed_b4 fu M x (bI m) (nI i) = some (bI (m || hits (gM_requests M) (gM_counts M 0) (gM_counts M 0 + x - 1) n i)) := by
  intro n
  induction n with
  | zero =>
    intro fu i m h1 h2
    obtain ⟨fu, rfl⟩ : ∃ f, fu = f + 1 := ⟨fu - 1, by omega⟩
    rw [fX5_isDisturbed_b4, hm, if_pos (nI_le (by omega) (by omega)), pZ]
    cases m
    · rfl
    · rfl
  | succ n ih =>
    intro fu i m h1 h2
    obtain ⟨fu, rfl⟩ : ∃ f, fu = f + 1 := ⟨fu - 1, by omega⟩
    rw [fX5_isDisturbed_b4, hm, if_neg (nI_ge (by omega) (by omega))]
    have e50 : fX5_isDisturbed_b50 (fX5_isDisturbed_b4 fu) M x (nI i) = some (bI true) := by
      rw [fX5_isDisturbed_b50, fX5_isDisturbed_b55, pLet_e, nI_1]
      have := ih fu (i + 1) true (by omega) (by omega)
      rw [Bool.true_or] at this
      exact this
    have e54 : fX5_isDisturbed_b54 (fX5_isDisturbed_b4 fu) M x (nI i) = some (bI (hits (gM_requests M) (gM_counts M 0) (gM_counts M 0 + x - 1) n (i + 1))) := by
      rw [fX5_isDisturbed_b54, fX5_isDisturbed_b55, pLet_e, nI_1]
      have := ih fu (i + 1) false (by omega) (by omega)
      rw [Bool.false_or] at this
      exact this
    cases m
    · rw [if_pos (show bI false = 0 from rfl), pIn_n (by omega) (by omega), p12_0, cl_n (by omega), j0, Bool.false_or]
      simp only [hits]
      by_cases h3 : gM_requests M i ≤ gM_counts M 0
      · rw [if_pos h3, e54]
        simp [h3]
      · rw [if_neg h3, pIn_n (by omega) (by omega), p12_0]
        by_cases h4 : gM_counts M 0 + x - 1 < gM_requests M i
        · rw [if_pos h4, e54]
          simp [h4]
        · rw [if_neg h4, e50]
          simp [h3, h4]
    · rw [if_neg (show ¬ bI true = 0 by decide), e50, Bool.true_or]
theorem req_both {f : Bool} {e T : Nat} {ls : Nat → List (Nat × Nat)} {B : TB} {M : TM} (h : RS f e T ls B M) (x : Int32) : ∃ m : Bool, fX4_requestComes B (gB_executed B + x - 1) = some (bI m) ∧ fX5_isDisturbed M x = some (bI m) := by
  obtain ⟨s, k, h1, h2, h3, h4, h5, h6⟩ := h.rq
  have hq := h.rq
  rw [h5] at hq
  have hfc : 20 < fuelX4_requestComes_2 := by unfold fuelX4_requestComes_2; omega
  have hfm : 20 < fuelX5_isDisturbed_4 := by unfold fuelX5_isDisturbed_4; omega
  refine ⟨hits (gM_requests M) (gB_executed B) (gB_executed B + x - 1) k 0, ?_, ?_⟩
  · rw [fX4_requestComes_e]
    exact rc_c h2 hq h4 k _ 0 (by omega) (by omega)
  · rw [fX5_isDisturbed]
    have := rc_m (x := x) h2 h5 k fuelX5_isDisturbed_4 0 false (by omega) (by omega)
    rw [Bool.false_or, h.c0] at this
    exact this
set_option maxRecDepth 20000 in
theorem ir_loop {mem reg inp rq gvn size len pages which exA exT cnt ks : Nat → Int32} {rf im lr room trn kd by_ fm fs fp fd lb ov : Int32} {k sp : Nat} (hk : k ≤ 16) (hk1 : 1 ≤ k) (hsp : sp < 256) (hspe : (reg 4 - 1) &&& 255 = nI sp) (h0 : ∀ p, p < 256 → size p ≤ 0 → size p = 0) (h1 : cnt 1 = cnM size) (h2 : cnt 2 = flM size) : ∀ (n fu i : Nat) (rq0 : Nat → Int32), i + n = k - 1 → n < fu →
    ∃ rq' : Nat → Int32, fX5_interrupt_b20 fu (rf, mem, (upd reg 8 0), inp, im, rq0, (nI (k - 1)), lr, gvn, size, len, pages, which, exA, exT, room, trn, cnt, kd, by_, fm, fs, fp, fd, ks, lb, ov) (nI i) = some (rf, (upd mem sp (reg 9)), (upd (upd (upd reg 8 0) 4 (nI sp)) 9 240), inp, im, rq', (nI (k - 1)), lr, gvn, (mS size pages (sp / 32)), len, pages, which, exA, exT, room, trn, (upd (upd (upd (upd cnt 1 (cnM (mS size pages (sp / 32)))) 2 (flM (mS size pages (sp / 32)))) 4 (cnt 4 + (cnM size - cnM (mS size pages (sp / 32))))) 8 ((upd (upd (upd cnt 1 (cnM (mS size pages (sp / 32)))) 2 (flM (mS size pages (sp / 32)))) 4 (cnt 4 + (cnM size - cnM (mS size pages (sp / 32))))) 8 + 1)), kd, by_, fm, fs, fp, fd, ks, (-1), ov) ∧ (∀ j, j < i → rq' j = rq0 j) ∧ ∀ j, i ≤ j → j < k - 1 → rq' j = rq0 (j + 1) := by
  intro n
  induction n with
  | zero =>
    intro fu i rq0 a1 a2
    obtain ⟨fu, rfl⟩ : ∃ f, fu = f + 1 := ⟨fu - 1, by omega⟩
    refine ⟨rq0, ?_, fun _ _ => rfl, fun j b1 b2 => absurd b2 (by omega)⟩
    rw [fX5_interrupt_b20, if_pos (show gM_requestMany (rf, mem, (upd reg 8 0), inp, im, rq0, (nI (k - 1)), lr, gvn, size, len, pages, which, exA, exT, room, trn, cnt, kd, by_, fm, fs, fp, fd, ks, lb, ov) ≤ nI i from nI_le (by omega) (by omega)), p10_9, j9, fX5_push_e, p10_4, p10_4, j4, pLet_e, p10_4]
    have e1 : gM_reg (rf, mem, (upd reg 8 0), inp, im, rq0, (nI (k - 1)), lr, gvn, size, len, pages, which, exA, exT, room, trn, cnt, kd, by_, fm, fs, fp, fd, ks, lb, ov) 4 = reg 4 := rfl
    have e2 : gM_reg (rf, mem, (upd reg 8 0), inp, im, rq0, (nI (k - 1)), lr, gvn, size, len, pages, which, exA, exT, room, trn, cnt, kd, by_, fm, fs, fp, fd, ks, lb, ov) 9 = reg 9 := rfl
    rw [e1, e2, hspe]
    have e3 : sM_reg (rf, mem, (upd reg 8 0), inp, im, rq0, (nI (k - 1)), lr, gvn, size, len, pages, which, exA, exT, room, trn, cnt, kd, by_, fm, fs, fp, fd, ks, lb, ov) (upd (gM_reg (rf, mem, (upd reg 8 0), inp, im, rq0, (nI (k - 1)), lr, gvn, size, len, pages, which, exA, exT, room, trn, cnt, kd, by_, fm, fs, fp, fd, ks, lb, ov)) 4 (nI sp)) = (rf, mem, (upd (upd reg 8 0) 4 (nI sp)), inp, im, rq0, (nI (k - 1)), lr, gvn, size, len, pages, which, exA, exT, room, trn, cnt, kd, by_, fm, fs, fp, fd, ks, lb, ov) := rfl
    have e4 : gM_reg (rf, mem, (upd (upd reg 8 0) 4 (nI sp)), inp, im, rq0, (nI (k - 1)), lr, gvn, size, len, pages, which, exA, exT, room, trn, cnt, kd, by_, fm, fs, fp, fd, ks, lb, ov) 4 = nI sp := rfl
    rw [e3, e4, write_e hsp h0 h1 h2, pB_e2, pB_e2, p10_9, pLet_e, p12_8, p12_8, j8]
    simp only [pLet_e]
    rfl
  | succ n ih =>
    intro fu i rq0 a1 a2
    obtain ⟨fu, rfl⟩ : ∃ f, fu = f + 1 := ⟨fu - 1, by omega⟩
    rw [fX5_interrupt_b20, if_neg (show ¬ gM_requestMany (rf, mem, (upd reg 8 0), inp, im, rq0, (nI (k - 1)), lr, gvn, size, len, pages, which, exA, exT, room, trn, cnt, kd, by_, fm, fs, fp, fd, ks, lb, ov) ≤ nI i from nI_ge (by omega) (by omega)), nI_1, pIn_n (by omega) (by omega), pIn_n (by omega) (by omega), cl_n (by omega), cl_n (by omega), pLet_e, pLet_e]
    obtain ⟨rq', b1, b2, b3⟩ := ih fu (i + 1) (upd rq0 i (rq0 (i + 1))) (by omega) (by omega)
    refine ⟨rq', b1, fun j hj => ?_, fun j c1 c2 => ?_⟩
    · rw [b2 j (by omega), pk_un (by omega)]
    · by_cases e : j = i
      · subst e; rw [b2 j (by omega), pk_us]
      · rw [b3 j (by omega) c2, pk_un (by omega)]
set_option maxRecDepth 20000 in
theorem int_c {st mem outs : Nat → Int32} {iq : TQ} {gv wr : Int32} {sp : Nat} (hsp : sp < 256) (hspe : (st 4 - 1) &&& 255 = nI sp) : fX2_interrupt (st, mem, iq, outs, gv, wr) = some (upd (upd (upd st 8 0) 4 (nI sp)) 9 240, upd mem sp (st 9), iq, outs, gv, nI sp) := by
  rw [fX2_interrupt_e, p10_8, j8, pLet_e, p10_9, j9, fX2_push_e, p10_4, p10_4, j4, pLet_e, p10_4]
  have e1 : gG_state (sG_state (st, mem, iq, outs, gv, wr) (upd (gG_state (st, mem, iq, outs, gv, wr)) 8 0)) 4 = st 4 := rfl
  rw [e1, hspe]
  have e3 : sG_state (sG_state (st, mem, iq, outs, gv, wr) (upd (gG_state (st, mem, iq, outs, gv, wr)) 8 0)) (upd (gG_state (sG_state (st, mem, iq, outs, gv, wr) (upd (gG_state (st, mem, iq, outs, gv, wr)) 8 0))) 4 (nI sp)) = (upd (upd st 8 0) 4 (nI sp), mem, iq, outs, gv, wr) := rfl
  have e4 : gG_state (upd (upd st 8 0) 4 (nI sp), mem, iq, outs, gv, wr) 4 = nI sp := rfl
  rw [e3, e4, fX2_write_e, pIn_n hsp (by omega), cl_n (by omega), pLet_e, pLet_e, pB_e2, pB_e2, p10_9, pLet_e]
  rfl
set_option maxRecDepth 20000 in
theorem int_rs {mem reg inp rq gvn size len pages which exA exT cnt ks : Nat → Int32} {rf im rm lr room trn kd by_ fm fs fp fd lb ov : Int32} {st outs code lenC beh siz ser exP lnk : Nat → Int32} {iq rqq : TQ} {gv wr limit blocks filled trl fls dead lrq exe inv lku itp itr en ext : Int32}  {e T : Nat} {ls : Nat → List (Nat × Nat)} {k sp : Nat} {rqq' : TQ} {rq' : Nat → Int32} (h : RS true e T ls ((st, mem, iq, outs, gv, wr), (code, lenC, beh, siz, ser, exP, lnk, limit, blocks, filled, trl, fls, dead), rqq, lrq, exe, inv, lku, itp, itr, en, ext) (rf, mem, reg, inp, im, rq, rm, lr, gvn, size, len, pages, which, exA, exT, room, trn, cnt, kd, by_, fm, fs, fp, fd, ks, lb, ov)) (hsp : sp < 256) (hr : QR 16 rqq' rq' (nI (k - 1))) : RS true e T ls (((upd (upd (upd st 8 0) 4 (nI sp)) 9 240), (upd mem sp (st 9)), iq, outs, gv, (-1)), (code, lenC, beh, siz, (dS ser beh (sp / 32)), exP, lnk, limit, (cn (dS ser beh (sp / 32))), (fl (dS ser beh (sp / 32)) siz), trl, fls, dead), rqq', lrq, exe, (inv + (cn ser - cn (dS ser beh (sp / 32)))), lku, itp, (itr + 1), en, (-1)) (rf, (upd mem sp (reg 9)), (upd (upd (upd reg 8 0) 4 (nI sp)) 9 240), inp, im, rq', (nI (k - 1)), lr, gvn, (mS size pages (sp / 32)), len, pages, which, exA, exT, room, trn, (upd (upd (upd (upd cnt 1 (cnM (mS size pages (sp / 32)))) 2 (flM (mS size pages (sp / 32)))) 4 (cnt 4 + (cnM size - cnM (mS size pages (sp / 32))))) 8 ((upd (upd (upd cnt 1 (cnM (mS size pages (sp / 32)))) 2 (flM (mS size pages (sp / 32)))) 4 (cnt 4 + (cnM size - cnM (mS size pages (sp / 32))))) 8 + 1)), kd, by_, fm, fs, fp, fd, ks, (-1), ov) := by
  have x := h.out
  have hG : st = reg := x.g_.2 rfl
  subst hG
  have hpb : ∀ p, p < 256 → PB mem code lenC beh siz ser exP lnk size len pages which exA exT (ls p) T p := x.pb_
  have hpb2 : ∀ p, p < 256 → PB (upd mem sp (st 9)) code lenC beh siz (dS ser beh (sp / 32)) exP lnk (mS size pages (sp / 32)) len pages which exA exT (ls p) T p := fun p hp => (hpb p hp).drop hp hsp
  have hc := cn_eq hpb x.tb_
  have hc2 := cn_eq hpb2 x.tb_
  have hbi : BI (upd (upd (upd st 8 0) 4 (nI sp)) 9 240) := ((x.bs_.up8 (Or.inl rfl)).up (i := 4) (x := nI sp) (isB_lit hsp) (by omega)).up (i := 9) (x := 240) (isB_lit (n := 240) (by omega)) (by omega)
  have hmb : ∀ i, isB (upd mem sp (st 9) i) := by
    intro i
    by_cases q : i = sp
    · subst q; rw [pk_us]; exact x.bs_.1 9
    · rw [pk_un q]; exact x.mb_ i
  have k1 : (upd (upd (upd (upd cnt 1 (cnM (mS size pages (sp / 32)))) 2 (flM (mS size pages (sp / 32)))) 4 (cnt 4 + (cnM size - cnM (mS size pages (sp / 32))))) 8 ((upd (upd (upd cnt 1 (cnM (mS size pages (sp / 32)))) 2 (flM (mS size pages (sp / 32)))) 4 (cnt 4 + (cnM size - cnM (mS size pages (sp / 32))))) 8 + 1)) 1 = cnM (mS size pages (sp / 32)) := by
    rw [pk_un (by omega), pk_un (by omega), pk_un (by omega), pk_us]
  have k2 : (upd (upd (upd (upd cnt 1 (cnM (mS size pages (sp / 32)))) 2 (flM (mS size pages (sp / 32)))) 4 (cnt 4 + (cnM size - cnM (mS size pages (sp / 32))))) 8 ((upd (upd (upd cnt 1 (cnM (mS size pages (sp / 32)))) 2 (flM (mS size pages (sp / 32)))) 4 (cnt 4 + (cnM size - cnM (mS size pages (sp / 32))))) 8 + 1)) 2 = flM (mS size pages (sp / 32)) := by
    rw [pk_un (by omega), pk_un (by omega), pk_us]
  have k4 : (upd (upd (upd (upd cnt 1 (cnM (mS size pages (sp / 32)))) 2 (flM (mS size pages (sp / 32)))) 4 (cnt 4 + (cnM size - cnM (mS size pages (sp / 32))))) 8 ((upd (upd (upd cnt 1 (cnM (mS size pages (sp / 32)))) 2 (flM (mS size pages (sp / 32)))) 4 (cnt 4 + (cnM size - cnM (mS size pages (sp / 32))))) 8 + 1)) 4 = inv + (cn ser - cn (dS ser beh (sp / 32))) := by
    rw [pk_un (by omega), pk_us, x.c4_, hc.1, hc2.1]
  have k8 : (upd (upd (upd (upd cnt 1 (cnM (mS size pages (sp / 32)))) 2 (flM (mS size pages (sp / 32)))) 4 (cnt 4 + (cnM size - cnM (mS size pages (sp / 32))))) 8 ((upd (upd (upd cnt 1 (cnM (mS size pages (sp / 32)))) 2 (flM (mS size pages (sp / 32)))) 4 (cnt 4 + (cnM size - cnM (mS size pages (sp / 32))))) 8 + 1)) 8 = itr + 1 := by
    rw [pk_us, pk_un (by omega), pk_un (by omega), pk_un (by omega), x.c8_]
  have ko : ∀ i, i ≠ 1 → i ≠ 2 → i ≠ 4 → i ≠ 8 → (upd (upd (upd (upd cnt 1 (cnM (mS size pages (sp / 32)))) 2 (flM (mS size pages (sp / 32)))) 4 (cnt 4 + (cnM size - cnM (mS size pages (sp / 32))))) 8 ((upd (upd (upd cnt 1 (cnM (mS size pages (sp / 32)))) 2 (flM (mS size pages (sp / 32)))) 4 (cnt 4 + (cnM size - cnM (mS size pages (sp / 32))))) 8 + 1)) i = cnt i := by
    intro i a b c d
    rw [pk_un d, pk_un c, pk_un b, pk_un a]
  exact RX.in_ ⟨⟨fun _ _ _ _ => rfl, fun _ => rfl⟩, hbi, hbi, rfl, hmb, rfl, x.q_, x.qb_, x.o_, x.gv_, x.ee_, hr, x.lr_, (ko 0 (by omega) (by omega) (by omega) (by omega)).trans x.c0_, k1, k2, (ko 3 (by omega) (by omega) (by omega) (by omega)).trans x.c3_, k4, (ko 5 (by omega) (by omega) (by omega) (by omega)).trans x.c5_, (ko 6 (by omega) (by omega) (by omega) (by omega)).trans x.c6_, (ko 7 (by omega) (by omega) (by omega) (by omega)).trans x.c7_, k8, (ko 9 (by omega) (by omega) (by omega) (by omega)).trans x.c9_, (ko 10 (by omega) (by omega) (by omega) (by omega)).trans x.c10_, (ko 11 (by omega) (by omega) (by omega) (by omega)).trans x.c11_, x.t1_, x.t2_, x.tb_, x.li_, rfl, rfl, hpb2, x.rf_⟩
set_option maxRecDepth 20000 in
theorem intr_both {e T : Nat} {ls : Nat → List (Nat × Nat)} {B : TB} {M : TM} (h : RS true e T ls B M) (hx : XS B M) (left : Int32) :
    ∃ (B' : TB) (M' : TM), fX4_interruptIfDue B = some B' ∧ fX5_goOn M left = fX5_goOn_b37 M' left ∧ RS true e T ls B' M' ∧ XS B' M' ∧ gB_ending B' = gB_ending B ∧ gM_isOver M' = gM_isOver M := by
  obtain ⟨⟨st, mem, iq, outs, gv, wr⟩, ⟨code, lenC, beh, siz, ser, exP, lnk, limit, blocks, filled, trl, fls, dead⟩, rqq, lrq, exe, inv, lku, itp, itr, en, ext⟩ := B
  obtain ⟨rf, memM, reg, inp, im, rq, rm, lr, gvn, size, len, pages, which, exA, exT, room, trn, cnt, kd, by_, fm, fs, fp, fd, ks, lb, ov⟩ := M
  have hm : mem = memM := h.m
  subst hm
  have hwr : wr = -1 := h.wr
  have x := h.out
  have hG : st = reg := x.g_.2 rfl
  have hrq : QR 16 rqq rq rm := x.rq_
  have hrq0 := hrq
  obtain ⟨s, k, r1, r2, r3, r4, r5, r6⟩ := hrq
  rw [r5] at hrq0
  have hc0 : cnt 0 = exe := x.c0_
  rw [fX4_interruptIfDue_e, fX5_goOn_e]
  have gm : gQ_many (gB_requests ((st, mem, iq, outs, gv, wr), (code, lenC, beh, siz, ser, exP, lnk, limit, blocks, filled, trl, fls, dead), rqq, lrq, exe, inv, lku, itp, itr, en, ext)) = nI k := r4
  have gm2 : gM_requestMany (rf, mem, reg, inp, im, rq, rm, lr, gvn, size, len, pages, which, exA, exT, room, trn, cnt, kd, by_, fm, fs, fp, fd, ks, lb, ov) = nI k := r5
  have g8 : gG_state (gB_guest ((st, mem, iq, outs, gv, wr), (code, lenC, beh, siz, ser, exP, lnk, limit, blocks, filled, trl, fls, dead), rqq, lrq, exe, inv, lku, itp, itr, en, ext)) 8 = reg 8 := congrFun hG 8
  have g82 : gM_reg (rf, mem, reg, inp, im, rq, rm, lr, gvn, size, len, pages, which, exA, exT, room, trn, cnt, kd, by_, fm, fs, fp, fd, ks, lb, ov) 8 = reg 8 := rfl
  have gq : gM_requests (rf, mem, reg, inp, im, rq, rm, lr, gvn, size, len, pages, which, exA, exT, room, trn, cnt, kd, by_, fm, fs, fp, fd, ks, lb, ov) 0 = rq 0 := rfl
  have gc : gM_counts (rf, mem, reg, inp, im, rq, rm, lr, gvn, size, len, pages, which, exA, exT, room, trn, cnt, kd, by_, fm, fs, fp, fd, ks, lb, ov) 0 = exe := hc0
  have gx : gB_executed ((st, mem, iq, outs, gv, wr), (code, lenC, beh, siz, ser, exP, lnk, limit, blocks, filled, trl, fls, dead), rqq, lrq, exe, inv, lku, itp, itr, en, ext) = exe := rfl
  have same : ∀ (o1 : Option TB) (o2 : Option (Int32 × TM)), o1 = some ((st, mem, iq, outs, gv, wr), (code, lenC, beh, siz, ser, exP, lnk, limit, blocks, filled, trl, fls, dead), rqq, lrq, exe, inv, lku, itp, itr, en, ext) → o2 = fX5_goOn_b37 (rf, mem, reg, inp, im, rq, rm, lr, gvn, size, len, pages, which, exA, exT, room, trn, cnt, kd, by_, fm, fs, fp, fd, ks, lb, ov) left → ∃ (B' : TB) (M' : TM), o1 = some B' ∧ o2 = fX5_goOn_b37 M' left ∧ RS true e T ls B' M' ∧ XS B' M' ∧ gB_ending B' = gB_ending ((st, mem, iq, outs, gv, wr), (code, lenC, beh, siz, ser, exP, lnk, limit, blocks, filled, trl, fls, dead), rqq, lrq, exe, inv, lku, itp, itr, en, ext) ∧ gM_isOver M' = gM_isOver (rf, mem, reg, inp, im, rq, rm, lr, gvn, size, len, pages, which, exA, exT, room, trn, cnt, kd, by_, fm, fs, fp, fd, ks, lb, ov) :=
    fun o1 o2 z1 z2 => ⟨_, _, z1, z2, h, hx, rfl, rfl⟩
  rw [p10_8, j8, g8, gm, gm2, p10_8, g82]
  by_cases h8 : reg 8 = 0
  · rw [if_pos h8]
    refine same _ _ rfl ?_
    by_cases hk : nI k ≤ 0
    · rw [if_pos hk]
    · rw [if_neg hk, if_neg (show ¬ reg 8 = 1 by rw [h8]; decide)]
  · have h81 : reg 8 = 1 := x.br_.2.2.2.2.resolve_left h8
    rw [if_neg h8, if_pos h81]
    by_cases hk : k = 0
    · rw [if_pos (show nI k = 0 by rw [hk]; rfl), if_pos (show nI k ≤ 0 by rw [hk]; decide)]
      exact same _ _ rfl rfl
    · rw [if_neg (show ¬ nI k = 0 from fun z => hk (nI_inj (b := 0) (by omega) (by omega) z)), if_neg (show ¬ nI k ≤ 0 from nI_ge (a := 0) (by omega) (by omega)), show gB_requests ((st, mem, iq, outs, gv, wr), (code, lenC, beh, siz, ser, exP, lnk, limit, blocks, filled, trl, fls, dead), rqq, lrq, exe, inv, lku, itp, itr, en, ext) = rqq from rfl, qr_first (by omega) hrq0 (by omega) (by omega), pB_e2, gx, pIn_l (show ¬ ((0 : Int32) < 0 ∨ 16 ≤ (0 : Int32).toNatClampNeg) by decide), p12_0, j0, gq, gc]
      by_cases hd : rq 0 ≤ exe
      · rw [if_pos hd, if_neg (show ¬ exe < rq 0 from Int32.not_lt.mpr hd)]
        obtain ⟨q', t1, t2⟩ := qr_take (by omega) hrq0 (by omega) (by omega)
        obtain ⟨sp, hsp, hspe⟩ := isB_and (reg 4 - 1)
        have hfi : 20 < fuelX5_interrupt_20 := by unfold fuelX5_interrupt_20; omega
        obtain ⟨rq', i1, i2, i3⟩ := ir_loop (rf := rf) (mem := mem) (reg := reg) (inp := inp) (im := im) (rq := rq) (lr := lr) (gvn := gvn) (size := size) (len := len) (pages := pages) (which := which) (exA := exA) (exT := exT) (room := room) (trn := trn) (cnt := cnt) (kd := kd) (by_ := by_) (fm := fm) (fs := fs) (fp := fp) (fd := fd) (ks := ks) (lb := lb) (ov := ov) r2 (by omega) hsp hspe (M0 x.pb_ x.tb_) x.c1_ x.c2_ (k - 1) fuelX5_interrupt_20 0 rq (by omega) (by omega)
        have hres := int_rs h hsp (t2 rq' (fun i hi => i3 i (by omega) hi))
        refine ⟨_, _, ?_, ?_, hres, Or.inl ⟨rfl, rfl⟩, Eq.refl en, Eq.refl ov⟩
        · rw [t1, pB_e2, pLet_e, pLet_e]
          have gg : gB_guest (sB_interrupts (sB_requests ((st, mem, iq, outs, gv, wr), (code, lenC, beh, siz, ser, exP, lnk, limit, blocks, filled, trl, fls, dead), rqq, lrq, exe, inv, lku, itp, itr, en, ext) q') (gB_interrupts (sB_requests ((st, mem, iq, outs, gv, wr), (code, lenC, beh, siz, ser, exP, lnk, limit, blocks, filled, trl, fls, dead), rqq, lrq, exe, inv, lku, itp, itr, en, ext) q') + 1)) = (st, mem, iq, outs, gv, wr) := rfl
          rw [gg, int_c hsp (by rw [hG]; exact hspe), pB_e2, pLet_e]
          have gw : sB_guest (sB_interrupts (sB_requests ((st, mem, iq, outs, gv, wr), (code, lenC, beh, siz, ser, exP, lnk, limit, blocks, filled, trl, fls, dead), rqq, lrq, exe, inv, lku, itp, itr, en, ext) q') (gB_interrupts (sB_requests ((st, mem, iq, outs, gv, wr), (code, lenC, beh, siz, ser, exP, lnk, limit, blocks, filled, trl, fls, dead), rqq, lrq, exe, inv, lku, itp, itr, en, ext) q') + 1)) (upd (upd (upd st 8 0) 4 (nI sp)) 9 240, upd mem sp (st 9), iq, outs, gv, nI sp) = (((upd (upd (upd st 8 0) 4 (nI sp)) 9 240), (upd mem sp (st 9)), iq, outs, gv, (nI sp)), (code, lenC, beh, siz, ser, exP, lnk, limit, blocks, filled, trl, fls, dead), q', lrq, exe, inv, lku, itp, (itr + 1), en, ext) := rfl
          rw [gw, fX4_dropWritten_e, show gG_written (gB_guest (((upd (upd (upd st 8 0) 4 (nI sp)) 9 240), (upd mem sp (st 9)), iq, outs, gv, (nI sp)), (code, lenC, beh, siz, ser, exP, lnk, limit, blocks, filled, trl, fls, dead), q', lrq, exe, inv, lku, itp, (itr + 1), en, ext)) = nI sp from rfl, if_neg (nI_ne_m1 (by omega)), div32 (by omega), show gB_cache (((upd (upd (upd st 8 0) 4 (nI sp)) 9 240), (upd mem sp (st 9)), iq, outs, gv, (nI sp)), (code, lenC, beh, siz, ser, exP, lnk, limit, blocks, filled, trl, fls, dead), q', lrq, exe, inv, lku, itp, (itr + 1), en, ext) = (code, lenC, beh, siz, ser, exP, lnk, limit, blocks, filled, trl, fls, dead) from rfl]
          rw [dropPage_e (g := sp / 32) (by omega) x.bl_ x.fi_ (fun p hp hs0 ht => ((x.pb_ p hp).of hs0).win hp (by omega) ht), pB_e2]
          simp only [pLet_e]
          rw [pB_e2]
          rfl
        · rw [fX5_interrupt_e, p10_8, j8, pLet_e, pLet_e]
          have gu : sM_requestMany (sM_reg (rf, mem, reg, inp, im, rq, rm, lr, gvn, size, len, pages, which, exA, exT, room, trn, cnt, kd, by_, fm, fs, fp, fd, ks, lb, ov) (upd (gM_reg (rf, mem, reg, inp, im, rq, rm, lr, gvn, size, len, pages, which, exA, exT, room, trn, cnt, kd, by_, fm, fs, fp, fd, ks, lb, ov)) 8 0)) (gM_requestMany (sM_reg (rf, mem, reg, inp, im, rq, rm, lr, gvn, size, len, pages, which, exA, exT, room, trn, cnt, kd, by_, fm, fs, fp, fd, ks, lb, ov) (upd (gM_reg (rf, mem, reg, inp, im, rq, rm, lr, gvn, size, len, pages, which, exA, exT, room, trn, cnt, kd, by_, fm, fs, fp, fd, ks, lb, ov)) 8 0)) - 1) = (rf, mem, (upd reg 8 0), inp, im, rq, (nI (k - 1)), lr, gvn, size, len, pages, which, exA, exT, room, trn, cnt, kd, by_, fm, fs, fp, fd, ks, lb, ov) := by
            show (rf, mem, (upd reg 8 0), inp, im, rq, (rm - nI 1), lr, gvn, size, len, pages, which, exA, exT, room, trn, cnt, kd, by_, fm, fs, fp, fd, ks, lb, ov) = _
            rw [r5, pk_sub (by omega)]
          rw [gu, show (0 : Int32) = nI 0 from rfl]
          have i1' := i1
          rw [show (0 : Int32) = nI 0 from rfl] at i1'
          rw [i1', pB_e2]
      · rw [if_neg hd, if_pos (Int32.not_le.mp hd)]
        exact same _ _ rfl rfl

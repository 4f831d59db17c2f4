/-! a turn -/
set_option maxRecDepth 20000 in
theorem fr_rs {f : Bool} {e T : Nat} {ls : Nat → List (Nat × Nat)} {B : TB} {M : TM} (h : RS f e T ls B M) {x y k b o : Int32} : RS f e T ls (sB_exit B x) (sM_isOver (sM_bytes (sM_kind (sM_leftBy M y) k) b) o) := by
  obtain ⟨⟨st, mem, iq, outs, gv, wr⟩, ⟨code, lenC, beh, siz, ser, exP, lnk, limit, blocks, filled, trl, fls, dead⟩, rqq, lrq, exe, inv, lku, itp, itr, en, ext⟩ := B
  obtain ⟨rf, memM, reg, inp, im, rq, rm, lr, gvn, size, len, pages, which, exA, exT, room, trn, cnt, kd, by_, fm, fs, fp, fd, ks, lb, ov⟩ := M
  have hm : mem = memM := h.m
  subst hm
  have x := h.out
  exact RX.in_ ⟨x.g_, x.bs_, x.br_, x.m_, x.mb_, x.wr_, x.q_, x.qb_, x.o_, x.gv_, x.ee_, x.rq_, x.lr_, x.c0_, x.c1_, x.c2_, x.c3_, x.c4_, x.c5_, x.c6_, x.c7_, x.c8_, x.c9_, x.c10_, x.c11_, x.t1_, x.t2_, x.tb_, x.li_, x.bl_, x.fi_, x.pb_, x.rf_⟩
set_option maxRecDepth 20000 in
theorem lbM_rs {f : Bool} {e T : Nat} {ls : Nat → List (Nat × Nat)} {B : TB} {M : TM} (h : RS f e T ls B M) {y : Int32} : RS f e T ls B (sM_leftBy M y) := by
  obtain ⟨⟨st, mem, iq, outs, gv, wr⟩, ⟨code, lenC, beh, siz, ser, exP, lnk, limit, blocks, filled, trl, fls, dead⟩, rqq, lrq, exe, inv, lku, itp, itr, en, ext⟩ := B
  obtain ⟨rf, memM, reg, inp, im, rq, rm, lr, gvn, size, len, pages, which, exA, exT, room, trn, cnt, kd, by_, fm, fs, fp, fd, ks, lb, ov⟩ := M
  have hm : mem = memM := h.m
  subst hm
  have x := h.out
  exact RX.in_ ⟨x.g_, x.bs_, x.br_, x.m_, x.mb_, x.wr_, x.q_, x.qb_, x.o_, x.gv_, x.ee_, x.rq_, x.lr_, x.c0_, x.c1_, x.c2_, x.c3_, x.c4_, x.c5_, x.c6_, x.c7_, x.c8_, x.c9_, x.c10_, x.c11_, x.t1_, x.t2_, x.tb_, x.li_, x.bl_, x.fi_, x.pb_, x.rf_⟩
set_option maxRecDepth 20000 in
theorem kb_rs {f : Bool} {e T : Nat} {ls : Nat → List (Nat × Nat)} {B : TB} {M : TM} (h : RS f e T ls B M) {x y k b : Int32} : RS f e T ls (sB_exit B x) (sM_bytes (sM_kind (sM_leftBy M y) k) b) := by
  obtain ⟨⟨st, mem, iq, outs, gv, wr⟩, ⟨code, lenC, beh, siz, ser, exP, lnk, limit, blocks, filled, trl, fls, dead⟩, rqq, lrq, exe, inv, lku, itp, itr, en, ext⟩ := B
  obtain ⟨rf, memM, reg, inp, im, rq, rm, lr, gvn, size, len, pages, which, exA, exT, room, trn, cnt, kd, by_, fm, fs, fp, fd, ks, lb, ov⟩ := M
  have hm : mem = memM := h.m
  subst hm
  have x := h.out
  exact RX.in_ ⟨x.g_, x.bs_, x.br_, x.m_, x.mb_, x.wr_, x.q_, x.qb_, x.o_, x.gv_, x.ee_, x.rq_, x.lr_, x.c0_, x.c1_, x.c2_, x.c3_, x.c4_, x.c5_, x.c6_, x.c7_, x.c8_, x.c9_, x.c10_, x.c11_, x.t1_, x.t2_, x.tb_, x.li_, x.bl_, x.fi_, x.pb_, x.rf_⟩
set_option maxRecDepth 20000 in
theorem en_rs {f : Bool} {e T : Nat} {ls : Nat → List (Nat × Nat)} {B : TB} {M : TM} (h : RS f e T ls B M) {v : Int32} : RS f e T ls (sB_ending B v) (sM_counts M (upd (gM_counts M) 11 v)) := by
  obtain ⟨⟨st, mem, iq, outs, gv, wr⟩, ⟨code, lenC, beh, siz, ser, exP, lnk, limit, blocks, filled, trl, fls, dead⟩, rqq, lrq, exe, inv, lku, itp, itr, en, ext⟩ := B
  obtain ⟨rf, memM, reg, inp, im, rq, rm, lr, gvn, size, len, pages, which, exA, exT, room, trn, cnt, kd, by_, fm, fs, fp, fd, ks, lb, ov⟩ := M
  have hm : mem = memM := h.m
  subst hm
  have x := h.out
  exact RX.in_ ⟨x.g_, x.bs_, x.br_, x.m_, x.mb_, x.wr_, x.q_, x.qb_, x.o_, x.gv_, x.ee_, x.rq_, x.lr_, (pk_un (by omega)).trans x.c0_, (pk_un (by omega)).trans x.c1_, (pk_un (by omega)).trans x.c2_, (pk_un (by omega)).trans x.c3_, (pk_un (by omega)).trans x.c4_, (pk_un (by omega)).trans x.c5_, (pk_un (by omega)).trans x.c6_, (pk_un (by omega)).trans x.c7_, (pk_un (by omega)).trans x.c8_, (pk_un (by omega)).trans x.c9_, (pk_un (by omega)).trans x.c10_, pk_us, x.t1_, x.t2_, x.tb_, x.li_, x.bl_, x.fi_, x.pb_, x.rf_⟩
set_option maxRecDepth 20000 in
theorem itp_rs {f : Bool} {e T : Nat} {ls : Nat → List (Nat × Nat)} {B : TB} {M : TM} (h : RS f e T ls B M) {v : Int32} : RS f e T ls (sB_interpreted B v) (sM_counts M (upd (gM_counts M) 7 v)) := by
  obtain ⟨⟨st, mem, iq, outs, gv, wr⟩, ⟨code, lenC, beh, siz, ser, exP, lnk, limit, blocks, filled, trl, fls, dead⟩, rqq, lrq, exe, inv, lku, itp, itr, en, ext⟩ := B
  obtain ⟨rf, memM, reg, inp, im, rq, rm, lr, gvn, size, len, pages, which, exA, exT, room, trn, cnt, kd, by_, fm, fs, fp, fd, ks, lb, ov⟩ := M
  have hm : mem = memM := h.m
  subst hm
  have x := h.out
  exact RX.in_ ⟨x.g_, x.bs_, x.br_, x.m_, x.mb_, x.wr_, x.q_, x.qb_, x.o_, x.gv_, x.ee_, x.rq_, x.lr_, (pk_un (by omega)).trans x.c0_, (pk_un (by omega)).trans x.c1_, (pk_un (by omega)).trans x.c2_, (pk_un (by omega)).trans x.c3_, (pk_un (by omega)).trans x.c4_, (pk_un (by omega)).trans x.c5_, (pk_un (by omega)).trans x.c6_, pk_us, (pk_un (by omega)).trans x.c8_, (pk_un (by omega)).trans x.c9_, (pk_un (by omega)).trans x.c10_, (pk_un (by omega)).trans x.c11_, x.t1_, x.t2_, x.tb_, x.li_, x.bl_, x.fi_, x.pb_, x.rf_⟩
set_option maxRecDepth 20000 in
theorem lku_rs {f : Bool} {e T : Nat} {ls : Nat → List (Nat × Nat)} {B : TB} {M : TM} (h : RS f e T ls B M) {v : Int32} : RS f e T ls (sB_lookups B v) (sM_counts M (upd (gM_counts M) 6 v)) := by
  obtain ⟨⟨st, mem, iq, outs, gv, wr⟩, ⟨code, lenC, beh, siz, ser, exP, lnk, limit, blocks, filled, trl, fls, dead⟩, rqq, lrq, exe, inv, lku, itp, itr, en, ext⟩ := B
  obtain ⟨rf, memM, reg, inp, im, rq, rm, lr, gvn, size, len, pages, which, exA, exT, room, trn, cnt, kd, by_, fm, fs, fp, fd, ks, lb, ov⟩ := M
  have hm : mem = memM := h.m
  subst hm
  have x := h.out
  exact RX.in_ ⟨x.g_, x.bs_, x.br_, x.m_, x.mb_, x.wr_, x.q_, x.qb_, x.o_, x.gv_, x.ee_, x.rq_, x.lr_, (pk_un (by omega)).trans x.c0_, (pk_un (by omega)).trans x.c1_, (pk_un (by omega)).trans x.c2_, (pk_un (by omega)).trans x.c3_, (pk_un (by omega)).trans x.c4_, (pk_un (by omega)).trans x.c5_, pk_us, (pk_un (by omega)).trans x.c7_, (pk_un (by omega)).trans x.c8_, (pk_un (by omega)).trans x.c9_, (pk_un (by omega)).trans x.c10_, (pk_un (by omega)).trans x.c11_, x.t1_, x.t2_, x.tb_, x.li_, x.bl_, x.fi_, x.pb_, x.rf_⟩
theorem itp_x (B : TB) (v : Int32) : gB_exit (sB_interpreted B v) = gB_exit B := rfl
theorem itp_n (B : TB) (v : Int32) : gB_ending (sB_interpreted B v) = gB_ending B := rfl
theorem itp_i (B : TB) (v : Int32) : gB_interpreted (sB_interpreted B v) = v := rfl
theorem itp_eta (B : TB) : sB_interpreted B (gB_interpreted B) = B := rfl
theorem cn_ov (M : TM) (f : Nat → Int32) : gM_isOver (sM_counts M f) = gM_isOver M := rfl
theorem cn_lb (M : TM) (f : Nat → Int32) : gM_leftBy (sM_counts M f) = gM_leftBy M := rfl
theorem cn_rg (M : TM) (f : Nat → Int32) : gM_reg (sM_counts M f) = gM_reg M := rfl
theorem cn_xa (M : TM) (f : Nat → Int32) : gM_exitAt (sM_counts M f) = gM_exitAt M := rfl
theorem lk_s (B : TB) (v : Int32) : gC_serial (gB_cache (sB_lookups B v)) = gC_serial (gB_cache B) := rfl
theorem lk_p (B : TB) (v : Int32) : gC_exitPlace (gB_cache (sB_lookups B v)) = gC_exitPlace (gB_cache B) := rfl
theorem lk_x (B : TB) (v : Int32) : gB_exit (sB_lookups B v) = gB_exit B := rfl
theorem lk_n (B : TB) (v : Int32) : gB_ending (sB_lookups B v) = gB_ending B := rfl
theorem kb_rg (M : TM) (x k y : Int32) : gM_reg (sM_bytes (sM_kind (sM_leftBy M x) k) y) = gM_reg M := rfl
theorem kb_me (M : TM) (x k y : Int32) : gM_memory (sM_bytes (sM_kind (sM_leftBy M x) k) y) = gM_memory M := rfl
theorem kb_ov (M : TM) (x k y : Int32) : gM_isOver (sM_bytes (sM_kind (sM_leftBy M x) k) y) = gM_isOver M := rfl
theorem kb_lb (M : TM) (x k y : Int32) : gM_leftBy (sM_bytes (sM_kind (sM_leftBy M x) k) y) = x := rfl
theorem kb_ki (M : TM) (x k y : Int32) : gM_kind (sM_bytes (sM_kind (sM_leftBy M x) k) y) = k := rfl
set_option maxRecDepth 20000 in
theorem runB_both {e T : Nat} {ls : Nat → List (Nat × Nat)} {B : TB} {M : TM} (h : RS true e T ls B M) (hx : XW B M) {p : Nat} (hp : p < 256) (hs : ¬ gC_serial (gB_cache B) p = 0) (h9 : gM_reg M 9 = nI p) (heo : EO B M) (he : e + 8 < 2 ^ 30) :
    ∃ (B' : TB) (M' : TM) (e' : Nat), fX4_runBlock B (nI p) = some B' ∧ fX5_runBlock M (nI p) = some M' ∧ RS true e' T ls B' M' ∧ XS B' M' ∧ EO B' M' ∧ e < e' ∧ e' ≤ e + (ls p).length := by
  obtain ⟨C', M1, a1, a2, a3, a4, a5, a6, a7⟩ := link_both h hx hp hs
  have hq := (a3.pb p hp).of a4
  have hle : gC_length (gB_cache (sB_cache B C')) p = nI (ls p).length := hq.le
  have hlm : gM_length (sM_leftBy M1 (-1)) p = nI (ls p).length := hq.lm
  have hl8 := hq.l8
  have hne := hq.ne
  have hfc : 20 < fuelX4_runBlock_24 := by unfold fuelX4_runBlock_24; omega
  have hfm : 20 < fuelX5_runBlock_59 := by unfold fuelX5_runBlock_59; omega
  have r3 : RS true e T ls (sB_cache B C') (sM_leftBy M1 (-1)) := lbM_rs a3
  have hreg : gM_reg (sM_leftBy M1 (-1)) 9 = nI ((p + nby []) % 256) := by
    rw [show nby [] = 0 from rfl, Nat.add_zero, Nat.mod_eq_of_lt hp, ← h9, ← a7]
    rfl
  have heo2 : EO (sB_cache B C') (sM_leftBy M1 (-1)) := by
    rcases heo with ⟨x, y⟩ | ⟨x, y⟩
    · exact Or.inl ⟨x, a6.trans y⟩
    · exact Or.inr ⟨x, a6.trans y⟩
  rw [fX4_runBlock_e, a1, pB_e2, pLet_e, pIn_n hp (by omega), pLet_e, cl_n (by omega), hle, a2, fX5_runBlock_b38_e, pLet_e, pIn_n hp (by omega), pLet_e, cl_n (by omega), hlm]
  generalize fuelX4_runBlock_24 = fc at hfc ⊢
  generalize fuelX5_runBlock_59 = fm at hfm ⊢
  obtain ⟨B', M', e', b1, b2, b3, b4, b5, b6, b7, b8⟩ := rb_loop (me := gM_which M p) hp (ls p) [] fc fm true e (sB_cache B C') (sM_leftBy M1 (-1)) 0 r3 rfl a4 (fun z => by cases z) (fun _ => hreg) (fun z => absurd z hne) rfl (congrFun a5 p) heo2 (by omega) (by omega) (by omega)
  exact ⟨B', M', e', b1, b2, b3, b4, b5, b8 hne, b7⟩
theorem dw_itp {B B' : TB} {x : Int32} (h : fX4_dropWritten B = some B') : fX4_dropWritten (sB_interpreted B x) = some (sB_interpreted B' x) := by
  rw [fX4_dropWritten_e] at h ⊢
  have e1 : gB_guest (sB_interpreted B x) = gB_guest B := rfl
  have e2 : gB_cache (sB_interpreted B x) = gB_cache B := rfl
  have e3 : gB_invalidated (sB_interpreted B x) = gB_invalidated B := rfl
  rw [e1, e2, e3]
  by_cases hw : gG_written (gB_guest B) = -1
  · rw [if_pos hw] at h ⊢
    injection h with h
    rw [h]
  · rw [if_neg hw] at h ⊢
    cases hd : fX0_dropPage (gB_cache B) (gG_written (gB_guest B) / 32) with
    | none => rw [hd] at h; exact absurd (show (none : Option TB) = some B' from h) (by simp)
    | some z =>
      rw [hd, pB_e2] at h
      rw [pB_e2]
      simp only [pLet_e] at h ⊢
      injection h with h
      rw [← h]
      rfl
theorem perf_itp {B B' : TB} {w x : Int32} (h : fX4_perform B w = some B') : fX4_perform (sB_interpreted B x) w = some (sB_interpreted B' x) := by
  obtain ⟨G, C, q, lr, ex, inv, lk, it, itr, en, xt⟩ := B
  rw [fX4_perform_e] at h ⊢
  have e0 : gB_guest (G, C, q, lr, ex, inv, lk, it, itr, en, xt) = G := rfl
  have e1 : gB_guest (sB_interpreted (G, C, q, lr, ex, inv, lk, it, itr, en, xt) x) = G := rfl
  rw [e0] at h
  rw [e1]
  cases hx : fX2_execute G w with
  | none => rw [hx] at h; exact absurd (show (none : Option TB) = some B' from h) (by simp)
  | some z =>
    rw [hx, pB_e2] at h
    rw [pB_e2]
    simp only [pLet_e] at h ⊢
    have e2 : sB_executed (sB_guest (G, C, q, lr, ex, inv, lk, it, itr, en, xt) z) (gB_executed (sB_guest (G, C, q, lr, ex, inv, lk, it, itr, en, xt) z) + 1) = (z, C, q, lr, ex + 1, inv, lk, it, itr, en, xt) := rfl
    have e3 : sB_executed (sB_guest (sB_interpreted (G, C, q, lr, ex, inv, lk, it, itr, en, xt) x) z) (gB_executed (sB_guest (sB_interpreted (G, C, q, lr, ex, inv, lk, it, itr, en, xt) x) z) + 1) = sB_interpreted (z, C, q, lr, ex + 1, inv, lk, it, itr, en, xt) x := rfl
    rw [e2] at h
    rw [e3]
    cases hd : fX4_dropWritten (z, C, q, lr, ex + 1, inv, lk, it, itr, en, xt) with
    | none => rw [hd] at h; exact absurd (show (none : Option TB) = some B' from h) (by simp)
    | some y =>
      rw [hd, pB_e2] at h
      rw [dw_itp hd, pB_e2]
      by_cases hk : fX1_kind w = 1
      · rw [if_pos hk] at h ⊢
        injection h with h
        rw [← h]
        rfl
      · rw [if_neg hk] at h ⊢
        injection h with h
        rw [h]
theorem itp_go {e T p b n : Nat} {ls : Nat → List (Nat × Nat)} {B2 : TB} {M2 : TM} (hr2 : RS true e T ls B2 M2) (he : e < 2 ^ 30) (hp : p < 256) (hb : b < 256) (hn : n < 256) (g9 : gM_reg M2 9 = nI p) (gma : gM_memory M2 p = nI b) (gmn : gM_memory M2 ((p + 1) % 256) = nI n) (gov : gM_isOver M2 = 0) (glb : gM_leftBy M2 = -1) (gen : gB_ending B2 = 0) (gex : gB_exit B2 = -1) (h0 : ¬ kC b = 0) :
    ∃ (B3 : TB) (M' M3 : TM), fX4_perform (sB_interpreted B2 (gB_interpreted B2 + 1)) (nI (wd b n false)) = some B3 ∧ fX5_step M2 = some M' ∧ sM_counts M' (upd (gM_counts M') 7 (gM_counts M' 7 + 1)) = M3 ∧ RS true (e + 1) T ls B3 M3 ∧ XS B3 M3 ∧ ((gM_isOver M3 = 1 ∧ gB_ending B3 = 1) ∨ (gM_isOver M3 = 0 ∧ gB_ending B3 = 0)) := by
  obtain ⟨B', M', p1, p2, p3⟩ := perf (dd := false) hr2 he hp hb hn g9 gma (fun _ => gmn) (fun _ => rfl) (fun z => by cases z) h0
  have hff : (if makB b = true then !false else true) = true := by
    by_cases z : makB b = true
    · rw [if_pos z]; rfl
    · rw [if_neg z]
  rw [hff] at p3
  have hii : gB_interpreted B' = gB_interpreted B2 := by
    have q := perf_itp (x := gB_interpreted B2) p1
    rw [itp_eta, p1] at q
    exact (congrArg gB_interpreted (Option.some.inj q)).trans (itp_i _ _)
  have hc7 : gM_counts M' 7 + 1 = gB_interpreted B2 + 1 := by rw [p3.rs.c7, hii]
  have hov : gM_isOver (sM_counts M' (upd (gM_counts M') 7 (gM_counts M' 7 + 1))) = gM_isOver M' := cn_ov _ _
  have hlb : gM_leftBy (sM_counts M' (upd (gM_counts M') 7 (gM_counts M' 7 + 1))) = gM_leftBy M' := cn_lb _ _
  have hrs : RS true (e + 1) T ls (sB_interpreted B' (gB_interpreted B2 + 1)) (sM_counts M' (upd (gM_counts M') 7 (gM_counts M' 7 + 1))) := by
    rw [hc7]
    exact itp_rs p3.rs
  refine ⟨_, M', _, perf_itp p1, p2, rfl, hrs, Or.inl ⟨(itp_x _ _).trans (p3.ex.trans gex), hlb.trans (p3.lb.trans glb)⟩, ?_⟩
  rw [hov, itp_n]
  have h1 := p3.en
  have h2 := p3.ov
  by_cases hh : kC b = 1
  · rw [if_pos hh] at h1 h2
    exact Or.inl ⟨h2, h1⟩
  · rw [if_neg hh] at h1 h2
    exact Or.inr ⟨h2.trans gov, h1.trans gen⟩
theorem en_x (B : TB) (v : Int32) : gB_exit (sB_ending B v) = gB_exit B := rfl
theorem en_n (B : TB) (v : Int32) : gB_ending (sB_ending B v) = v := rfl
theorem itp_bad {e T : Nat} {ls : Nat → List (Nat × Nat)} {B2 : TB} {M2 : TM} (hr2 : RS true e T ls B2 M2) (glb : gM_leftBy M2 = -1) (gex : gB_exit B2 = -1) : RS true e T ls (sB_ending B2 2) (sM_counts M2 (upd (gM_counts M2) 11 2)) ∧ XS (sB_ending B2 2) (sM_counts M2 (upd (gM_counts M2) 11 2)) ∧ ¬ gB_ending (sB_ending B2 2) = 0 :=
  ⟨en_rs hr2, Or.inl ⟨(en_x _ _).trans gex, (cn_lb _ _).trans glb⟩, fun z => absurd ((en_n _ _).symm.trans z) (by decide)⟩
set_option maxRecDepth 20000 in
theorem itp_both {e T : Nat} {ls : Nat → List (Nat × Nat)} {B : TB} {M : TM} (h : RS true e T ls B M) {p : Nat} (hp : p < 256) (h9 : gM_reg M 9 = nI p) (heo : gB_ending B = 0 ∧ gM_isOver M = 0) (he : e < 2 ^ 30) :
    ∃ (B' : TB) (M' : TM) (e' : Nat) (m : Int32), fX4_interpret B (nI p) = some B' ∧ fX5_goOn_b131 M (nI p) = some (m, M') ∧ RS true e' T ls B' M' ∧ XS B' M' ∧ e ≤ e' ∧ e' ≤ e + 1 ∧ ((m = 1 ∧ e < e' ∧ gB_ending B' = 0 ∧ gM_isOver M' = 0) ∨ (m = 0 ∧ ¬ gB_ending B' = 0)) := by
  obtain ⟨b, hb, hmb⟩ := h.mb p
  obtain ⟨n, hn, hmn⟩ := h.mb ((p + 1) % 256)
  have hk := h.m
  obtain ⟨M2, hM2⟩ : ∃ M2, M2 = sM_bytes (sM_kind (sM_leftBy M (-1)) (nI (kM b))) (nI (bytB b)) := ⟨_, rfl⟩
  obtain ⟨B2, hB2⟩ : ∃ B2, B2 = sB_exit B (-1) := ⟨_, rfl⟩
  have hr2 : RS true e T ls B2 M2 := by rw [hM2, hB2]; exact kb_rs h
  have hdec : fX1_decode (gG_memory (gB_guest B2)) (nI p) = some (nI (wd b n false)) := by
    rw [hB2, show gG_memory (gB_guest (sB_exit B (-1))) = gM_memory M from hk]
    exact w_decode hp hb hn hmb hmn
  have hlook : fX5_look (sM_leftBy M (-1)) (nI p) = some M2 := by
    rw [hM2]
    exact look_e hp hb (show gM_memory (sM_leftBy M (-1)) p = nI b from hmb)
  have g9 : gM_reg M2 9 = nI p := by rw [hM2, kb_rg]; exact h9
  have gma : gM_memory M2 p = nI b := by rw [hM2, kb_me]; exact hmb
  have gmn : gM_memory M2 ((p + 1) % 256) = nI n := by rw [hM2, kb_me]; exact hmn
  have gki : gM_kind M2 = nI (kM b) := by rw [hM2, kb_ki]
  have gov : gM_isOver M2 = 0 := by rw [hM2, kb_ov]; exact heo.2
  have glb : gM_leftBy M2 = -1 := by rw [hM2, kb_lb]
  have gen : gB_ending B2 = 0 := by rw [hB2]; exact heo.1
  have gex : gB_exit B2 = -1 := by rw [hB2]; rfl
  have tk := (t_kinds b hb).2.1
  have hkc := (kC_eq b hb).2
  have hkm : kM b < 2 ^ 31 := by have := (t_kinds b hb).1; split at this <;> omega
  by_cases h0 : kC b = 0
  · obtain ⟨a1, a2, a3⟩ := itp_bad hr2 glb gex
    refine ⟨_, _, e, 0, ?_, ?_, a1, a2, Nat.le_refl _, by omega, Or.inr ⟨rfl, a3⟩⟩
    · rw [fX4_interpret_e, pLet_e, ← hB2, hdec, pB_e2, pLet_e, w_kind hb hn, if_pos (show nI (kC b) = 0 by rw [h0]; rfl), pLet_e]
    · rw [fX5_goOn_b131_e, pLet_e, hlook, pB_e2, gki, if_pos (show nI (kM b) = 0 by rw [tk.mp h0]; rfl), p12_11, j11, pLet_e]
  · obtain ⟨B3, M', M3, a1, a2, a3, a4, a5, a6⟩ := itp_go hr2 he hp hb hn g9 gma gmn gov glb gen gex h0
    have eC : fX4_interpret B (nI p) = some B3 := by
      rw [fX4_interpret_e, pLet_e, ← hB2, hdec, pB_e2, pLet_e, w_kind hb hn, if_neg (show ¬ nI (kC b) = 0 from fun z => h0 (nI_inj (b := 0) (by omega) (by omega) z)), pLet_e, a1, pB_e2]
    have eM : fX5_goOn_b131 M (nI p) = if gM_isOver M3 = 0 then some (1, M3) else some (0, M3) := by
      rw [fX5_goOn_b131_e, pLet_e, hlook, pB_e2, gki, if_neg (show ¬ nI (kM b) = 0 from fun z => h0 (tk.mpr (nI_inj (b := 0) hkm (by omega) z))), a2, pB_e2, p12_7, p12_7, j7, a3, pLet_e]
    rcases a6 with ⟨d1, d2⟩ | ⟨d1, d2⟩
    · rw [d1, if_neg (show ¬ (1 : Int32) = 0 by decide)] at eM
      exact ⟨B3, M3, e + 1, 0, eC, eM, a4, a5, by omega, by omega, Or.inr ⟨rfl, by rw [d2]; decide⟩⟩
    · rw [d1, if_pos rfl] at eM
      exact ⟨B3, M3, e + 1, 1, eC, eM, a4, a5, by omega, by omega, Or.inl ⟨rfl, by omega, d2, d1⟩⟩
theorem hb_1 {M : TM} {p : Nat} (hp : p < 256) (hs : ¬ gM_size M p ≤ 0) : fX5_hasBlock M (nI p) = some (1, M) := by
  rw [fX5_hasBlock, pIn_n hp (by omega), cl_n (by omega), if_neg hs]
set_option maxRecDepth 20000 in
theorem find_both {e T : Nat} {ls : Nat → List (Nat × Nat)} {B : TB} {M : TM} (h : RS true e T ls B M) (hx : XS B M) {p : Nat} (hp : p < 256) (h9 : gM_reg M 9 = nI p) (hT : T + 1 < 2 ^ 30) (left : Int32) :
    ∃ (B' : TB) (M' : TM) (T' : Nat) (ls' : Nat → List (Nat × Nat)) (r : Int32), fX4_findBlock B (nI p) = some (r, B') ∧ fX5_goOn_b37 M left = fX5_goOn_b83 M' left (nI p) r ∧ RS true e T' ls' B' M' ∧ XW B' M' ∧ T ≤ T' ∧ T' ≤ T + 1 ∧ (r = 0 ∨ (r = 1 ∧ ¬ gC_serial (gB_cache B') p = 0)) ∧ gM_reg M' = gM_reg M ∧ gB_ending B' = gB_ending B ∧ gM_isOver M' = gM_isOver M := by
  obtain ⟨r0, r01, i1, i2, i3⟩ := il_both h hx hp
  rw [fX5_goOn_b37_e, p10_9, j9, pLet_e, h9, i2, pB_e2, fX4_findBlock_e, i1, pB_e2]
  rcases r01 with rfl | rfl
  · rw [if_pos rfl, if_pos rfl, pLet_e, p12_6, p12_6, j6, pLet_e]
    have hr1 : RS true e T ls (sB_lookups B (gB_lookups B + 1)) (sM_counts M (upd (gM_counts M) 6 (gM_counts M 6 + 1))) := by
      rw [h.c6]
      exact lku_rs h
    have hs1 : gC_serial (gB_cache (sB_lookups B (gB_lookups B + 1))) = gC_serial (gB_cache B) := lk_s _ _
    have hs2 : gC_exitPlace (gB_cache (sB_lookups B (gB_lookups B + 1))) = gC_exitPlace (gB_cache B) := lk_p _ _
    have hs3 : gM_exitAt (sM_counts M (upd (gM_counts M) 6 (gM_counts M 6 + 1))) = gM_exitAt M := cn_xa _ _
    have hx1 : gB_exit (sB_lookups B (gB_lookups B + 1)) = gB_exit B := lk_x _ _
    have hx2 : gM_leftBy (sM_counts M (upd (gM_counts M) 6 (gM_counts M 6 + 1))) = gM_leftBy M := cn_lb _ _
    have hx3 : gM_reg (sM_counts M (upd (gM_counts M) 6 (gM_counts M 6 + 1))) = gM_reg M := cn_rg _ _
    have hx4 : gB_ending (sB_lookups B (gB_lookups B + 1)) = gB_ending B := lk_n _ _
    have hx5 : gM_isOver (sM_counts M (upd (gM_counts M) 6 (gM_counts M 6 + 1))) = gM_isOver M := cn_ov _ _
    generalize sB_lookups B (gB_lookups B + 1) = B1 at hr1 hs1 hs2 hx1 hx4 ⊢
    generalize sM_counts M (upd (gM_counts M) 6 (gM_counts M 6 + 1)) = M1 at hr1 hs3 hx2 hx3 hx5 ⊢
    have hxs : XS B1 M1 := by
      rcases hx with ⟨a, b⟩ | ⟨p0, x, y, t, h1, h2, h3, h4, h5, h6, h7, h8⟩
      · exact Or.inl ⟨hx1.trans a, hx2.trans b⟩
      · exact Or.inr ⟨p0, x, y, t, h1, h2, hx1.trans h3, hx2.trans h4, h5, h6, by rw [hs1]; exact h7, by rw [hs2, hs3]; exact h8⟩
    rw [has_e hp, pB_e2, fX5_goOn_b66_e, if_pos rfl]
    by_cases hs : gC_serial (gB_cache B1) p = 0
    · rw [if_pos hs, if_pos rfl, show gG_memory (gB_guest B1) = gM_memory M1 from hr1.m]
      obtain ⟨r, C', M', T', ls', b1, b2, b3, b4, b5, b6, b7⟩ := blk_both hr1 hp hs hT
      rw [b1, pB_e2, pLet_e, b2, pB_e2]
      have hxw : XW (sB_cache B1 C') M' := by
        rcases hxs with ⟨a, b⟩ | ⟨p0, x, y, t, h1, h2, h3, h4, h5, h6, h7, h8⟩
        · exact Or.inl ⟨a, b7.lb.trans b⟩
        · refine Or.inr ⟨p0, x, y, t, h1, h2, h3, b7.lb.trans h4, h5, h6, ?_⟩
          by_cases hz : gC_serial C' p0 = 0
          · exact Or.inl hz
          · right
            have hpp : p0 ≠ p := fun z => h7 (by rw [z]; exact hs)
            obtain ⟨k1, k2, k3, k4⟩ := b7.xs p0 hpp hz
            have h8x := h8.x
            have h8y := h8.y
            rw [← k1, ← k2] at h8x
            rw [← k3, ← k4] at h8y
            exact ⟨h8x, h8y⟩
      rcases b6 with rfl | ⟨rfl, b6⟩
      · rw [if_pos rfl, if_pos rfl]
        exact ⟨_, _, T', ls', 0, rfl, rfl, b3, hxw, b4, b5, Or.inl rfl, b7.rg.trans hx3, hx4, b7.ov.trans hx5⟩
      · rw [if_neg (show ¬ (1 : Int32) = 0 by decide), if_neg (show ¬ (1 : Int32) = 0 by decide), fX5_goOn_b78_e]
        exact ⟨_, _, T', ls', 1, rfl, rfl, b3, hxw, b4, b5, Or.inr ⟨rfl, b6⟩, b7.rg.trans hx3, hx4, b7.ov.trans hx5⟩
    · rw [if_neg hs, if_neg (show ¬ (1 : Int32) = 0 by decide), hb_1 hp (fun z => hs (((hr1.pb p hp).iff hr1.tb).mpr z)), pB_e2, if_neg (show ¬ (1 : Int32) = 0 by decide), fX5_goOn_b78_e]
      exact ⟨B1, M1, T, ls, 1, rfl, rfl, hr1, hxs.w, Nat.le_refl _, by omega, Or.inr ⟨rfl, hs⟩, hx3, hx4, hx5⟩
  · rw [if_neg (show ¬ (1 : Int32) = 0 by decide), if_neg (show ¬ (1 : Int32) = 0 by decide), fX5_goOn_b66_e, if_neg (show ¬ (1 : Int32) = 0 by decide), fX5_goOn_b78_e]
    exact ⟨B, M, T, ls, 1, rfl, rfl, h, hx.w, Nat.le_refl _, by omega, Or.inr ⟨rfl, i3 rfl⟩, rfl, rfl, rfl⟩
set_option maxRecDepth 20000 in
theorem turn_both {e T : Nat} {ls : Nat → List (Nat × Nat)} {B : TB} {M : TM} (h : RS true e T ls B M) (hx : XS B M) (heo : gB_ending B = 0 ∧ gM_isOver M = 0) (hT : T + 1 < 2 ^ 30) (he : e + 8 < 2 ^ 30) {lf : Nat} (hl : 1 ≤ lf) (hl2 : lf ≤ 5000) :
    ∃ (B' : TB) (M' : TM) (e' T' : Nat) (ls' : Nat → List (Nat × Nat)) (m : Int32), fX4_takeTurn B (nI lf) = some B' ∧ fX5_goOn M (nI lf) = some (m, M') ∧ RS true e' T' ls' B' M' ∧ XS B' M' ∧ T ≤ T' ∧ T' ≤ T + 1 ∧ e ≤ e' ∧ e' ≤ e + lf ∧ ((m = 1 ∧ e < e' ∧ gB_ending B' = 0 ∧ gM_isOver M' = 0) ∨ (m = 0 ∧ ¬ gB_ending B' = 0)) := by
  obtain ⟨B1, M1, a1, a2, a3, a4, a5, a6⟩ := intr_both h hx (nI lf)
  obtain ⟨p, hp, h9⟩ := a3.br.1 9
  have hst : gG_state (gB_guest B1) 9 = nI p := by rw [a3.g.1 9 (by omega) (by omega) (by omega)]; exact h9
  obtain ⟨B2, M2, T', ls', r, b1, b2, b3, b4, b5, b6, b7, b8, b9, b10⟩ := find_both a3 a4 hp h9 hT (nI lf)
  have h92 : gM_reg M2 9 = nI p := by rw [b8]; exact h9
  have heo2 : gB_ending B2 = 0 ∧ gM_isOver M2 = 0 := ⟨b9.trans (a5.trans heo.1), b10.trans (a6.trans heo.2)⟩
  rw [fX4_takeTurn_e, a1, pB_e2, p10_9, j9, hst, pLet_e, b1, pB_e2, a2, b2, fX5_goOn_b83_e]
  have itp : ∃ (B' : TB) (M' : TM) (e' T' : Nat) (ls' : Nat → List (Nat × Nat)) (m : Int32), fX4_takeTurn_b48 B2 (nI p) = some B' ∧ fX5_goOn_b131 M2 (nI p) = some (m, M') ∧ RS true e' T' ls' B' M' ∧ XS B' M' ∧ T ≤ T' ∧ T' ≤ T + 1 ∧ e ≤ e' ∧ e' ≤ e + lf ∧ ((m = 1 ∧ e < e' ∧ gB_ending B' = 0 ∧ gM_isOver M' = 0) ∨ (m = 0 ∧ ¬ gB_ending B' = 0)) := by
    obtain ⟨B', M', e', m, c1, c2, c3, c4, c5, c6, c7⟩ := itp_both b3 hp h92 heo2 (by omega)
    exact ⟨B', M', e', T', ls', m, by rw [fX4_takeTurn_b48_e, c1, pB_e2], c2, c3, c4, b5, b6, c5, by omega, c7⟩
  rcases b7 with rfl | ⟨rfl, hs⟩
  · rw [if_pos rfl, if_pos rfl]
    exact itp
  · have hq := (b3.pb p hp).of hs
    have hle : gC_length (gB_cache B2) p = nI (ls' p).length := hq.le
    have hlm : gM_length M2 p = nI (ls' p).length := hq.lm
    have hl8 := hq.l8
    rw [if_neg (show ¬ (1 : Int32) = 0 by decide), if_neg (show ¬ (1 : Int32) = 0 by decide), pIn_n hp (by omega), pIn_n hp (by omega), cl_n (by omega), hle, hlm, fX4_mayRunWhole_e]
    by_cases hlt : nI lf < nI (ls' p).length
    · rw [if_pos hlt, if_pos hlt, pB_e2, if_pos rfl]
      exact itp
    · rw [if_neg hlt, if_neg hlt, pIn_n hp (by omega)]
      have hlen : (ls' p).length ≤ lf := by
        refine Nat.le_of_not_lt fun z => hlt ?_
        exact Int32.not_le.mp (nI_ge z (by omega))
      obtain ⟨m, m1, m2⟩ := req_both b3 (nI (ls' p).length)
      rw [m1, m2, pB_e2, pB_e2]
      cases m
      · rw [if_pos (show bI false = 0 from rfl), if_pos (show bI false = 0 from rfl), pB_e2, if_neg (show ¬ (1 : Int32) = 0 by decide)]
        obtain ⟨B', M', e', c1, c2, c3, c4, c5, c6, c7⟩ := runB_both b3 b4 hp hs h92 (Or.inl heo2) he
        rw [c1, pB_e2, c2, pB_e2]
        rcases c5 with ⟨d1, d2⟩ | ⟨d1, d2⟩
        · rw [d2, if_pos rfl]
          exact ⟨B', M', e', T', ls', 1, rfl, rfl, c3, c4, b5, b6, by omega, by omega, Or.inl ⟨rfl, c6, d1, d2⟩⟩
        · rw [d2, if_neg (show ¬ (1 : Int32) = 0 by decide)]
          exact ⟨B', M', e', T', ls', 0, rfl, rfl, c3, c4, b5, b6, by omega, by omega, Or.inr ⟨rfl, by rw [d1]; decide⟩⟩
      · rw [if_neg (show ¬ bI true = 0 by decide), if_neg (show ¬ bI true = 0 by decide), pB_e2, if_pos rfl]
        exact itp

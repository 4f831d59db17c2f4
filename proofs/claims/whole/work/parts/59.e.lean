/-! run -/
theorem bd {x : Int32} {a b : Nat} (hb : b < 2 ^ 31) (h1 : ¬ x < nI a) (h2 : ¬ nI b < x) (ha : a < 2 ^ 31) : ∃ n : Nat, a ≤ n ∧ n ≤ b ∧ x = nI n := by
  have h0 : ¬ x < 0 := fun z => h1 (by
    rw [Int32.lt_iff_toInt_lt] at z ⊢
    rw [nI_toInt ha]
    have h0 : (0 : Int32).toInt = 0 := by decide
    omega)
  obtain ⟨n, hn, rfl⟩ := nI_of h0
  rw [nI_ltI hn ha] at h1
  rw [nI_ltI hb hn] at h2
  exact ⟨n, by omega, by omega, rfl⟩
def ST (j : Nat) (B : TB) (M : TM) : Prop := ∃ e T ls, RS true e T ls B (sM_refusal M 0) ∧ e ≤ 5000 * j ∧ T ≤ 5000 * j
theorem ST.rf {j : Nat} {B : TB} {M : TM} (h : ST j B M) {y : Int32} : ST (j + 1) B (sM_refusal M y) := by
  obtain ⟨e, T, ls, h1, h2, h3⟩ := h
  exact ⟨e, T, ls, h1, by omega, by omega⟩
theorem ST.of {j e T : Nat} {ls : Nat → List (Nat × Nat)} {B : TB} {M : TM} (h : RS true e T ls B M) (h2 : e ≤ 5000 * j) (h3 : T ≤ 5000 * j) : ST j B M := by
  refine ⟨e, T, ls, ?_, h2, h3⟩
  rw [← h.rf]
  exact h
set_option maxRecDepth 20000 in
theorem ov_rs {f : Bool} {e T : Nat} {ls : Nat → List (Nat × Nat)} {B : TB} {M : TM} (h : RS f e T ls B M) {y : Int32} : RS f e T ls B (sM_isOver M y) := by
  obtain ⟨⟨st, mem, iq, outs, gv, wr⟩, ⟨code, lenC, beh, siz, ser, exP, lnk, limit, blocks, filled, trl, fls, dead⟩, rqq, lrq, exe, inv, lku, itp, itr, en, ext⟩ := B
  obtain ⟨rf, memM, reg, inp, im, rq, rm, lr, gvn, size, len, pages, which, exA, exT, room, trn, cnt, kd, by_, fm, fs, fp, fd, ks, lb, ov⟩ := M
  have hm : mem = memM := h.m
  subst hm
  have x := h.out
  exact RX.in_ ⟨x.g_, x.bs_, x.br_, x.m_, x.mb_, x.wr_, x.q_, x.qb_, x.o_, x.gv_, x.ee_, x.rq_, x.lr_, x.c0_, x.c1_, x.c2_, x.c3_, x.c4_, x.c5_, x.c6_, x.c7_, x.c8_, x.c9_, x.c10_, x.c11_, x.t1_, x.t2_, x.tb_, x.li_, x.bl_, x.fi_, x.pb_, x.rf_⟩
theorem ref0 (u : TM) : fX5_refused u 0 = (0, sM_refusal u 0) := by
  rw [fX5_refused_e, pLet_e, if_pos (show (0 : Int32) ≤ 0 by decide)]
theorem ref1 (u : TM) : fX5_refused u 1 = (1, sM_refusal u 1) := by
  rw [fX5_refused_e, pLet_e, if_neg (show ¬ (1 : Int32) ≤ 0 by decide)]
theorem ref2 (u : TM) : fX5_refused u 2 = (1, sM_refusal u 2) := by
  rw [fX5_refused_e, pLet_e, if_neg (show ¬ (2 : Int32) ≤ 0 by decide)]
theorem fin_both {many e0 e T t : Nat} {ls : Nat → List (Nat × Nat)} {B : TB} {M : TM} {fuC fuM : Nat} (h : RS true e T ls B M) (he : ¬ gB_ending B = 0) (h0 : e0 ≤ e) :
    fX4_run_b37 (fuC + 1) B (nI many) (nI e0) (nI t) = some (0, nI (e - e0), B) ∧ fX5_run_b52 (fuM + 1) M (nI many) (nI e0) 0 = some (nI (e - e0), sM_leftBy M (-1)) ∧ RS true e T ls B (sM_leftBy M (-1)) := by
  have b79 : fX4_run_b79 B (nI e0) = some (0, nI (e - e0), B) := by
    rw [fX4_run_b79_e, h.ee, pk_sub h0]
  refine ⟨?_, ?_, lbM_rs h⟩
  · rw [fX4_run_b37]
    by_cases z : nI many ≤ nI t
    · rw [if_pos z, b79]
    · rw [if_neg z, pLet_e, b79]
      by_cases z2 : nI many - (gB_executed B - nI e0) ≤ 0
      · rw [if_pos z2]
      · rw [if_neg z2, if_neg he]
  · rw [fX5_run_b52, if_pos rfl, fX5_run_b86_e, pLet_e, p12_0, j0, show gM_counts (sM_leftBy M (-1)) 0 = gM_counts M 0 from rfl, h.c0, h.ee, pk_sub h0]
theorem loop_both {many e0 : Nat} (hm : many ≤ 5000) (hz : e0 + many + 8 < 2 ^ 30) : ∀ (N n fuC fuM e T t : Nat) (ls : Nat → List (Nat × Nat)) (B : TB) (M : TM), n ≤ N → RS true e T ls B M → XS B M → n + e = e0 + many → e0 ≤ e → gB_ending B = 0 → gM_isOver M = 0 → t ≤ e - e0 → T + n < 2 ^ 30 → n + 1 < fuC → n + 1 < fuM →
    ∃ (B' : TB) (M' : TM) (e' T' : Nat) (ls' : Nat → List (Nat × Nat)), fX4_run_b37 fuC B (nI many) (nI e0) (nI t) = some (0, nI (e' - e0), B') ∧ fX5_run_b52 fuM M (nI many) (nI e0) 1 = some (nI (e' - e0), M') ∧ RS true e' T' ls' B' M' ∧ e0 ≤ e' ∧ e' ≤ e0 + many ∧ T' ≤ T + n := by
  intro N
  induction N with
  | zero =>
    intro n fuC fuM e T t ls B M hn h hx h1 h2 h3 h4 h5 h6 h7 h8
    obtain ⟨fc, rfl⟩ : ∃ fc, fuC = fc + 1 := ⟨fuC - 1, by omega⟩
    obtain ⟨fm, rfl⟩ : ∃ fm, fuM = fm + 1 := ⟨fuM - 1, by omega⟩
    have b79 : fX4_run_b79 B (nI e0) = some (0, nI (e - e0), B) := by
      rw [fX4_run_b79_e, h.ee, pk_sub h2]
    refine ⟨B, sM_leftBy M (-1), e, T, ls, ?_, ?_, lbM_rs h, h2, by omega, by omega⟩
    · rw [fX4_run_b37]
      by_cases z : nI many ≤ nI t
      · rw [if_pos z, b79]
      · rw [if_neg z, pLet_e, b79, h.ee, pk_sub h2, pk_sub (by omega), if_pos (show nI (many - (e - e0)) ≤ 0 by rw [show many - (e - e0) = 0 by omega]; decide)]
    · rw [fX5_run_b52, if_neg (show ¬ (1 : Int32) = 0 by decide), p12_0, j0, h.c0, h.ee, nI_add, if_pos (nI_le (by omega) (by omega)), fX5_run_b86_e, pLet_e, p12_0, j0, show gM_counts (sM_leftBy M (-1)) 0 = gM_counts M 0 from rfl, h.c0, h.ee, pk_sub h2]
  | succ N ih =>
    intro n fuC fuM e T t ls B M hn h hx h1 h2 h3 h4 h5 h6 h7 h8
    by_cases hnn : n ≤ N
    · exact ih n fuC fuM e T t ls B M hnn h hx h1 h2 h3 h4 h5 h6 h7 h8
    obtain ⟨fc, rfl⟩ : ∃ fc, fuC = fc + 2 := ⟨fuC - 2, by omega⟩
    obtain ⟨fm, rfl⟩ : ∃ fm, fuM = fm + 2 := ⟨fuM - 2, by omega⟩
    obtain ⟨B1, M1, e1, T1, ls1, m, a1, a2, a3, a4, a5, a6, a7, a8, a9⟩ := turn_both h hx ⟨h3, h4⟩ (by omega) (by omega) (lf := n) (by omega) (by omega)
    have hC : fX4_run_b37 (fc + 2) B (nI many) (nI e0) (nI t) = fX4_run_b37 (fc + 1) B1 (nI many) (nI e0) (nI (t + 1)) := by
      rw [fX4_run_b37, if_neg (nI_ge (by omega) (by omega)), pLet_e, h.ee, pk_sub h2, pk_sub (by omega), show many - (e - e0) = n by omega, if_neg (show ¬ nI n ≤ 0 from nI_ge (a := 0) (by omega) (by omega)), if_pos h3, a1, pB_e2, pLet_e, nI_1]
    have hM : fX5_run_b52 (fm + 2) M (nI many) (nI e0) 1 = fX5_run_b52 (fm + 1) M1 (nI many) (nI e0) m := by
      rw [fX5_run_b52, if_neg (show ¬ (1 : Int32) = 0 by decide), p12_0, j0, h.c0, h.ee, nI_add, if_neg (nI_ge (by omega) (by omega)), p12_0, pk_sub (by omega), show e0 + many - e = n by omega, a2, pB_e2]
    rw [hC, hM]
    rcases a9 with ⟨rfl, b1, b2, b3⟩ | ⟨rfl, b1⟩
    · obtain ⟨B2, M2, e2, T2, ls2, c1, c2, c3, c4, c5, c6⟩ := ih (e0 + many - e1) (fc + 1) (fm + 1) e1 T1 (t + 1) ls1 B1 M1 (by omega) a3 a4 (by omega) (by omega) b2 b3 (by omega) (by omega) (by omega) (by omega)
      exact ⟨B2, M2, e2, T2, ls2, c1, c2, c3, c4, c5, by omega⟩
    · obtain ⟨c1, c2, c3⟩ := fin_both (many := many) (t := t + 1) (fuC := fc) (fuM := fm) a3 b1 (show e0 ≤ e1 by omega)
      exact ⟨B1, sM_leftBy M1 (-1), e1, T1, ls1, c1, c2, c3, by omega, by omega, by omega⟩
set_option maxRecDepth 20000 in
theorem run_in {e T n : Nat} {ls : Nat → List (Nat × Nat)} {B : TB} {M : TM} (h : RS true e T ls B (sM_refusal M 0)) (n1 : 1 ≤ n) (n2 : n ≤ 5000) (he : e + n + 8 < 2 ^ 30) (hT : T + n < 2 ^ 30) :
    ∃ (B' : TB) (M' : TM) (e' T' : Nat) (ls' : Nat → List (Nat × Nat)), fX4_run B (nI n) = some (0, nI (e' - e), B') ∧ fX5_run M (nI n) = some (nI (e' - e), M') ∧ RS true e' T' ls' B' M' ∧ e' ≤ e + n ∧ T' ≤ T + n := by
  have hfc : 5500 < fuelX4_run_37 := by unfold fuelX4_run_37; omega
  have hfm : 5500 < fuelX5_run_52 := by unfold fuelX5_run_52; omega
  have i1 : ¬ nI n < 1 := nI_nlt (b := 1) n1 (by omega)
  have i2 : nI n ≤ 5000 := nI_le (b := 5000) n2 (by omega)
  have i3 : ¬ (5000 : Int32) < nI n := nI_nlt (a := 5000) n2 (by omega)
  rw [fX4_run_e, if_neg i1, if_pos i2, pLet_e, pLet_e, pLet_e, fX5_run_e, fX5_isIn_e, if_neg i1, if_neg i3, pLet_e, if_neg (show ¬ (1 : Int32) = 0 by decide), fX5_run_b17_e, ref0, pLet_e, if_pos rfl, p12_0, j0, pLet_e, p12_11, j11, pLet_e, pLet_e, pLet_e]
  have r1 : RS true e T ls (sB_exit (sB_ending B 0) (-1)) (sM_isOver (sM_leftBy (sM_counts (sM_refusal M 0) (upd (gM_counts (sM_refusal M 0)) 11 0)) (-1)) 0) := ov_rs (lbM_rs (lb_rs2 (en_rs h)))
  have r2 : XS (sB_exit (sB_ending B 0) (-1)) (sM_isOver (sM_leftBy (sM_counts (sM_refusal M 0) (upd (gM_counts (sM_refusal M 0)) 11 0)) (-1)) 0) := Or.inl ⟨rfl, rfl⟩
  have r3 : gB_ending (sB_exit (sB_ending B 0) (-1)) = 0 := rfl
  have r4 : gM_isOver (sM_isOver (sM_leftBy (sM_counts (sM_refusal M 0) (upd (gM_counts (sM_refusal M 0)) 11 0)) (-1)) 0) = 0 := rfl
  have k1 : gM_counts (0, sM_refusal M 0).2 0 = nI e := h.c0.trans h.ee
  rw [k1, h.ee]
  generalize sM_isOver (sM_leftBy (sM_counts (sM_refusal M 0) (upd (gM_counts (sM_refusal M 0)) 11 0)) (-1)) 0 = M1 at r1 r2 r4 ⊢
  generalize sB_exit (sB_ending B 0) (-1) = B1 at r1 r2 r3 ⊢
  generalize fuelX4_run_37 = fc at hfc ⊢
  generalize fuelX5_run_52 = fm at hfm ⊢
  obtain ⟨B', M', e', T', ls', c1, c2, c3, c4, c5, c6⟩ := loop_both (many := n) (e0 := e) n2 (by omega) n n fc fm e T 0 ls B1 M1 (Nat.le_refl _) r1 r2 (by omega) (Nat.le_refl _) r3 r4 (by omega) (by omega) (by omega) (by omega)
  exact ⟨B', M', e', T', ls', c1, c2, c3, c5, c6⟩

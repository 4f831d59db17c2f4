/-! a block runs -/
theorem nby_app : ∀ (l r : List (Nat × Nat)), nby (l ++ r) = nby l + nby r
  | [], r => by simp [nby]
  | q :: l, r => by
    have := nby_app l r
    simp only [List.cons_append, nby]
    omega
theorem mt_suf {m : Nat → Int32} : ∀ (l r : List (Nat × Nat)) (a : Nat), mt m a (l ++ r) → a < 256 → mt m ((a + nby l) % 256) r
  | [], r, a, h, ha => by
    rw [show nby [] = 0 from rfl, Nat.add_zero, Nat.mod_eq_of_lt ha]
    exact h
  | q :: l, r, a, h, ha => by
    have := mt_suf l r _ h.2.2.2.2.2 (Nat.mod_lt _ (by omega))
    rw [show nby (q :: l) = bytB q.1 + nby l from rfl]
    rw [show (a + (bytB q.1 + nby l)) % 256 = ((a + bytB q.1) % 256 + nby l) % 256 by omega]
    exact this
def EO (B : TB) (M : TM) : Prop := (gB_ending B = 0 ∧ gM_isOver M = 0) ∨ (gB_ending B = 1 ∧ gM_isOver M = 1)
theorem b59_c {B : TB} {p : Nat} (hp : p < 256) : (gC_serial (gB_cache B) p = 0 → fX4_runBlock_b59 B (nI p) = some (sB_exit B (-1))) ∧ (¬ gC_serial (gB_cache B) p = 0 → ∀ x, fX0_exitTo (gB_cache B) (nI p) (gG_state (gB_guest B) 9) = some x → fX4_runBlock_b59 B (nI p) = some (sB_exit B x)) := by
  constructor
  · intro h
    rw [fX4_runBlock_b59_e, has_e hp, pB_e2, if_pos h, if_pos rfl, fX4_runBlock_b93_e, pLet_e]
  · intro h x hx
    rw [fX4_runBlock_b59_e, has_e hp, pB_e2, if_neg h, if_neg (show ¬ (1 : Int32) = 0 by decide), p10_9, j9, hx, pB_e2, fX4_runBlock_b93_e, pLet_e]
theorem lb_rs2 {f : Bool} {e T : Nat} {ls : Nat → List (Nat × Nat)} {B : TB} {M : TM} {x : Int32} (h : RS f e T ls B M) : RS f e T ls (sB_exit B x) M := by
  obtain ⟨⟨st, mem, iq, outs, gv, wr⟩, ⟨code, lenC, beh, siz, ser, exP, lnk, limit, blocks, filled, trl, fls, dead⟩, rqq, lrq, exe, inv, lku, itp, itr, en, ext⟩ := B
  obtain ⟨rf, memM, reg, inp, im, rq, rm, lr, gvn, size, len, pages, which, exA, exT, room, trn, cnt, kd, by_, fm, fs, fp, fd, ks, lb, ov⟩ := M
  have hm : mem = memM := h.m
  subst hm
  exact lb_rs h
set_option maxRecDepth 100000 in
theorem t_ex : ∀ b, b < 256 → ¬ kC b = 0 → (leaB b = true → kC b = 1 ∨ kC b = 23 ∨ kC b = 24 ∨ kC b = 25 ∨ kC b = 26 ∨ kC b = 29) ∧ ((kC b = 1 ∨ kC b = 26) ↔ (nI (kM b) = 25 ∨ nI (kM b) = 1)) ∧ (kC b = 1 ∨ kC b = 26 → leaB b = true ∧ bytB b = 1) ∧ (kC b = 23 ∨ kC b = 24 ∨ kC b = 25 ∨ kC b = 29 → leaB b = true ∧ bytB b = 2) := all256 (by decide +kernel)
/-- where the block's last instruction leads: an exit of it, or nowhere -/
theorem ends_at {p a b n nb : Nat} {exP : Nat → Int32} {x : Int32} (hb : b < 256) (hk : ¬ kC b = 0) (hnb : (a + bytB b) % 256 = (p + nb) % 256) (h1 : exP (2 * p) = (if leaB b = true ∧ bytB b = 2 then nI n else -1)) (h2 : exP (2 * p + 1) = (if kC b = 24 ∨ kC b = 29 ∨ leaB b = false then nI ((p + nb) % 256) else -1)) (hx : pcx b n a x) :
    ((kC b = 1 ∨ kC b = 26) → exP (2 * p) = -1 ∧ exP (2 * p + 1) = -1) ∧ (¬ (kC b = 1 ∨ kC b = 26) → exP (2 * p) = x ∨ exP (2 * p + 1) = x) := by
  obtain ⟨t1, t2, t3, t4⟩ := t_ex b hb hk
  constructor
  · intro h
    have := t3 h
    rw [h1, h2]
    refine ⟨if_neg (fun z => by omega), if_neg (fun z => ?_)⟩
    rcases z with z | z | z
    · omega
    · omega
    · rw [this.1] at z; cases z
  · intro h
    by_cases hl : leaB b = true
    · have hc := t1 hl
      have hB := t4 (by omega)
      rw [h1, h2, if_pos hB]
      by_cases h3 : kC b = 23 ∨ kC b = 25
      · exact Or.inl (hx.2.1 h3).symm
      · have h4 : kC b = 24 ∨ kC b = 29 := by omega
        rw [if_pos (h4.imp id Or.inl)]
        rcases hx.2.2 h4 with z | z
        · exact Or.inl z.symm
        · right
          rw [z, ← hnb, hB.2]
    · have hl' : leaB b = false := by simpa using hl
      right
      rw [h2, if_pos (Or.inr (Or.inr hl')), hx.1 hl', hnb]
set_option maxRecDepth 20000 in
theorem rb_loop {T : Nat} {ls : Nat → List (Nat × Nat)} {p : Nat} {me : Int32} (hp : p < 256) : ∀ (r : List (Nat × Nat)) (pre : List (Nat × Nat)) (fuC fuM : Nat) (f : Bool) (e : Nat) (B : TB) (M : TM) (x5 : Int32), RS f e T ls B M → ls p = pre ++ r → ¬ gC_serial (gB_cache B) p = 0 → (f = false → man r = true) → (r ≠ [] → gM_reg M 9 = nI ((p + nby pre) % 256)) →
    (r = [] → ∃ pre' q, pre = pre' ++ [q] ∧ x5 = nI (kM q.1) ∧ pcx q.1 q.2 ((p + nby pre') % 256) (gM_reg M 9)) → gM_leftBy M = -1 → gM_which M p = me → EO B M → e + r.length < 2 ^ 30 → r.length + 1 < fuC → r.length + 1 < fuM →
    ∃ (B' : TB) (M' : TM) (e' : Nat), fX4_runBlock_b24 fuC B (nI p) (nI (ls p).length) (nI pre.length) = some B' ∧ fX5_runBlock_b59 fuM M (nI p) me (nI (ls p).length) 1 x5 (nI pre.length) = some M' ∧ RS true e' T ls B' M' ∧ XS B' M' ∧ EO B' M' ∧ e ≤ e' ∧ e' ≤ e + r.length ∧ (r ≠ [] → e < e') := by
  intro r
  induction r with
  | nil =>
    intro pre fuC fuM f e B M x5 h hl hs hf _ hlast hlb hme heo he hfc hfm
    obtain ⟨pre', q, e1, e2, e3⟩ := hlast rfl
    obtain ⟨fc, rfl⟩ : ∃ fc, fuC = fc + 1 := ⟨fuC - 1, by omega⟩
    obtain ⟨fm, rfl⟩ : ∃ fm, fuM = fm + 1 := ⟨fuM - 1, by omega⟩
    rw [List.append_nil] at hl
    have hft : f = true := by
      cases f
      · exact absurd (hf rfl) (by simp [man])
      · rfl
    subst hft
    have hq := (h.pb p hp).of hs
    have hl8 := hq.l8
    rw [hl] at hl8
    have hpr : ls p = pre' ++ [q] := hl.trans e1
    have hok := mt_ok _ hq.mt
    rw [hpr] at hok
    have hqb := (hok q (by simp)).1
    have hmt := hq.mt
    rw [hpr] at hmt
    have hmq := mt_suf pre' [q] p hmt hp
    have hk0 : ¬ kC q.1 = 0 := hmq.2.2.2.1
    have hex := hq.ex pre' q hpr
    have hpc := ends_at (a := (p + nby pre') % 256) (nb := nby (ls p)) hqb hk0 (by rw [hpr, nby_app]; show ((p + nby pre') % 256 + bytB q.1) % 256 = (p + (nby pre' + (bytB q.1 + 0))) % 256; omega) hex.1 hex.2 e3
    have hst : gG_state (gB_guest B) 9 = gM_reg M 9 := h.g.1 9 (by omega) (by omega) (by omega)
    have htB : isB (gM_reg M 9) := h.br.1 9
    have ht := t_ex q.1 hqb hk0
    rw [fX4_runBlock_b24, fX5_runBlock_b59, hl, if_pos (nI_le (Nat.le_refl _) (by omega)), if_pos (nI_le (Nat.le_refl _) (by omega)), fX5_runBlock_b112_e, if_neg (show ¬ (1 : Int32) = 0 by decide), e2]
    by_cases hc : kC q.1 = 1 ∨ kC q.1 = 26
    · have hxx := hpc.1 hc
      have hxit : fX0_exitTo (gB_cache B) (nI p) (gG_state (gB_guest B) 9) = some (-1) := by
        have e2 : (2 : Int32) * nI p = nI (2 * p) := pk_mul 2 p
        have e3 : nI (2 * p) + 1 = nI (2 * p + 1) := nI_1 _
        obtain ⟨tn, tn1, tn2⟩ := htB
        have hne : ¬ (-1 : Int32) = gG_state (gB_guest B) 9 := by
          rw [hst, tn2]
          exact fun z => nI_ne_m1 (n := tn) (by omega) z.symm
        rw [fX0_exitTo_e, e2, e3, pIn_n (by omega) (by omega), cl_n (by omega), hxx.1, if_neg hne, pIn_n (by omega) (by omega), cl_n (by omega), hxx.2, if_neg hne]
      refine ⟨sB_exit B (-1), M, e, (b59_c hp).2 hs _ hxit, ?_, lb_rs2 h, Or.inl ⟨rfl, hlb⟩, heo, Nat.le_refl _, by omega, fun z => absurd rfl z⟩
      rcases ht.2.1.mp hc with z | z
      · rw [if_pos z]
      · by_cases z2 : nI (kM q.1) = 25
        · rw [if_pos z2]
        · rw [if_neg z2, if_pos z]
    · have hnk : ¬ (nI (kM q.1) = 25 ∨ nI (kM q.1) = 1) := fun z => hc (ht.2.1.mpr z)
      rw [if_neg (fun z => hnk (Or.inl z)), if_neg (fun z => hnk (Or.inr z)), p10_9, j9]
      obtain ⟨x, M', y1, y2, y3, y4, y5, y6⟩ := leave_both h hp hs htB (hpc.2 hc)
      rw [← hst] at y1
      refine ⟨sB_exit B x, M', e, (b59_c hp).2 hs _ y1, by rw [y2, pB_e2], y3, y4, ?_, Nat.le_refl _, by omega, fun z => absurd rfl z⟩
      rcases heo with ⟨a, b⟩ | ⟨a, b⟩
      · exact Or.inl ⟨a, y5.trans b⟩
      · exact Or.inr ⟨a, y5.trans b⟩
  | cons q r ih =>
    intro pre fuC fuM f e B M x5 h hl hs hf hpc _ hlb hme heo he hfc hfm
    simp only [List.length_cons] at he hfc hfm
    obtain ⟨fc, rfl⟩ : ∃ fc, fuC = fc + 1 := ⟨fuC - 1, by omega⟩
    obtain ⟨fm, rfl⟩ : ∃ fm, fuM = fm + 1 := ⟨fuM - 1, by omega⟩
    have hq := (h.pb p hp).of hs
    have hl8 := hq.l8
    have hll : (ls p).length = pre.length + (r.length + 1) := by rw [hl, List.length_append, List.length_cons]
    have hok := mt_ok _ hq.mt
    have hmt := hq.mt
    rw [hl] at hok hmt
    have hqb := hok q (by simp)
    have hms := mt_suf pre (q :: r) p hmt hp
    obtain ⟨m1, m2, m3, m4, m5, m6⟩ := hms
    have hcw := hq.cw
    rw [hl] at hcw
    have hw := cwd_at pre q r _ hcw
    have hne : neeB q.1 = true → f = true := by
      intro z
      cases f
      · have := hf rfl
        rw [show man (q :: r) = (!neeB q.1 && (makB q.1 || man r)) from rfl, z] at this
        simp at this
      · rfl
    obtain ⟨B', M', p1, p2, p3⟩ := perf (dd := makB q.1 && man r) h (by omega) (Nat.mod_lt _ (by omega)) hqb.1 hqb.2 (hpc (by simp)) m1 m5 hne (fun z => by revert z; cases makB q.1 <;> simp) m4
    have hff : (if makB q.1 = true then !(makB q.1 && man r) else f) = false → man r = true := by
      intro z
      by_cases hm : makB q.1 = true
      · rw [if_pos hm, hm] at z
        simpa using z
      · have hm' : makB q.1 = false := by simpa using hm
        rw [if_neg hm] at z
        have := hf z
        rw [show man (q :: r) = (!neeB q.1 && (makB q.1 || man r)) from rfl, hm'] at this
        revert this
        cases man r <;> simp
    generalize (if makB q.1 = true then !(makB q.1 && man r) else f) = f' at p3 hff
    have hrs := p3.rs
    have heo' : EO B' M' := by
      have h1 := p3.en
      have h2 := p3.ov
      by_cases hk : kC q.1 = 1
      · rw [if_pos hk] at h1 h2
        exact Or.inr ⟨h1, h2⟩
      · rw [if_neg hk] at h1 h2
        rcases heo with ⟨a, b⟩ | ⟨a, b⟩
        · exact Or.inl ⟨h1.trans a, h2.trans b⟩
        · exact Or.inr ⟨h1.trans a, h2.trans b⟩
    have hword : fX0_wordAt (gB_cache B) (nI p) (nI pre.length) = some (nI (wd q.1 q.2 (makB q.1 && man r))) := by
      obtain ⟨G, ⟨code, lenC, beh, siz, ser, exP, lnk, limit, blocks, filled, trl, fls, dead⟩, R⟩ := B
      rw [← hw]
      exact word_e hp (by omega)
    have stepC : fX4_runBlock_b24 (fc + 1) B (nI p) (nI (ls p).length) (nI pre.length) = fX4_runBlock_b24 fc B' (nI p) (nI (ls p).length) (nI (pre.length + 1)) := by
      rw [fX4_runBlock_b24, if_neg (nI_ge (by omega) (by omega)), has_e hp, pB_e2, if_neg hs, if_neg (show ¬ (1 : Int32) = 0 by decide), hword, pB_e2, p1, pB_e2, pLet_e, nI_1]
    have hkd := p3.kd
    have hwh : gM_which M' p = me := by rw [p3.wh]; exact hme
    have hif := (hrs.pb p hp).iff hrs.tb
    rw [stepC, fX5_runBlock_b59, if_neg (nI_ge (by omega) (by omega)), if_neg (show ¬ (1 : Int32) = 0 by decide), p2, pB_e2, pLet_e, pIn_n hp (by omega), cl_n (by omega), hkd]
    have hlb' : gM_leftBy M' = -1 := p3.lb.trans hlb
    by_cases hs' : gC_serial (gB_cache B') p = 0
    · have hft : f' = true := by
        rcases p3.se with z | z
        · rw [z] at hs'; exact absurd hs' hs
        · exact z
      rw [hft] at hrs
      obtain ⟨fc, rfl⟩ : ∃ fc', fc = fc' + 1 := ⟨fc - 1, by omega⟩
      obtain ⟨fm, rfl⟩ : ∃ fm', fm = fm' + 1 := ⟨fm - 1, by omega⟩
      have endC : fX4_runBlock_b24 (fc + 1) B' (nI p) (nI (ls p).length) (nI (pre.length + 1)) = some (sB_exit B' (-1)) := by
        rw [fX4_runBlock_b24]
        by_cases z : nI (ls p).length ≤ nI (pre.length + 1)
        · rw [if_pos z]; exact (b59_c hp).1 hs'
        · rw [if_neg z, has_e hp, pB_e2, if_pos hs', if_pos rfl]; exact (b59_c hp).1 hs'
      refine ⟨sB_exit B' (-1), M', e + 1, endC, ?_, lb_rs2 hrs, Or.inl ⟨rfl, hlb'⟩, heo', by omega, by simp only [List.length_cons]; omega, fun _ => by omega⟩
      rw [if_pos (hif.mp hs'), fX5_runBlock_b103_e, fX5_runBlock_b104_e, pLet_e, nI_1, fX5_runBlock_b59]
      have b112 : fX5_runBlock_b112 M' (nI p) 0 (nI (kM q.1)) = some M' := by rw [fX5_runBlock_b112_e, if_pos rfl]
      by_cases z : nI (ls p).length ≤ nI (pre.length + 1)
      · rw [if_pos z]; exact b112
      · rw [if_neg z, if_pos rfl]; exact b112
    · rw [if_neg (fun z => hs' (hif.mpr z)), pIn_n hp (by omega), hwh, if_pos rfl, fX5_runBlock_b104_e, pLet_e, nI_1]
      have hl2 : ls p = (pre ++ [q]) ++ r := by rw [hl]; simp
      have hn2 : nby (pre ++ [q]) = nby pre + bytB q.1 := by rw [nby_app]; rfl
      have hpl : (pre ++ [q]).length = pre.length + 1 := by simp
      obtain ⟨B2, M2, e2, z1, z2, z3, z4, z5, z6, z7, z8⟩ := ih (pre ++ [q]) fc fm f' (e + 1) B' M' (nI (kM q.1)) hrs hl2 hs' hff (fun hr => by
          have hed := hq.ed pre q r hl hr
          have hle : leaB q.1 = false := by
            have := (t_facts q.1 hqb.1).2.2.1
            revert this
            rw [hed]
            cases leaB q.1 <;> simp
          rw [p3.px.1 hle, hn2]
          congr 1
          omega) (fun _ => ⟨pre, q, rfl, rfl, p3.px⟩) hlb' hwh heo' (by omega) (by omega) (by omega)
      rw [hpl] at z1 z2
      exact ⟨B2, M2, e2, z1, z2, z3, z4, z5, by omega, by simp only [List.length_cons]; omega, fun _ => by omega⟩

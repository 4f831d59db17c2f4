theorem szC_app : ∀ (l : List (Nat × Nat)) (q : Nat × Nat), szw q.1 false ≤ szC (l ++ [q])
  | [], q => by simp [szC, man]
  | z :: l, q => by
    have := szC_app l q
    simp only [List.cons_append, szC]
    omega
set_option maxRecDepth 100000 in
theorem t_one : ∀ b, b < 256 → 1 ≤ szw b false := all256 (by decide +kernel)
/-- what a turn may not touch while it looks for a block -/
abbrev KB (p : Nat) (B : TB) (M : TM) (C' : TC) (M' : TM) : Prop :=
  (gM_leftBy M' = gM_leftBy M) ∧
  (gM_isOver M' = gM_isOver M) ∧
  (gM_reg M' = gM_reg M) ∧
  (∀ i, i ≠ p → ¬ gC_serial C' i = 0 → gC_exitPlace C' (2 * i) = gC_exitPlace (gB_cache B) (2 * i) ∧ gC_exitPlace C' (2 * i + 1) = gC_exitPlace (gB_cache B) (2 * i + 1) ∧ gM_exitAt M' (2 * i) = gM_exitAt M (2 * i) ∧ gM_exitAt M' (2 * i + 1) = gM_exitAt M (2 * i + 1))
theorem KB.lb {p : Nat} {B : TB} {M : TM} {C' : TC} {M' : TM} (h_ : KB p B M C' M') : gM_leftBy M' = gM_leftBy M := h_.1
theorem KB.ov {p : Nat} {B : TB} {M : TM} {C' : TC} {M' : TM} (h_ : KB p B M C' M') : gM_isOver M' = gM_isOver M := h_.2.1
theorem KB.rg {p : Nat} {B : TB} {M : TM} {C' : TC} {M' : TM} (h_ : KB p B M C' M') : gM_reg M' = gM_reg M := h_.2.2.1
theorem KB.xs {p : Nat} {B : TB} {M : TM} {C' : TC} {M' : TM} (h_ : KB p B M C' M') : ∀ i, i ≠ p → ¬ gC_serial C' i = 0 → gC_exitPlace C' (2 * i) = gC_exitPlace (gB_cache B) (2 * i) ∧ gC_exitPlace C' (2 * i + 1) = gC_exitPlace (gB_cache B) (2 * i + 1) ∧ gM_exitAt M' (2 * i) = gM_exitAt M (2 * i) ∧ gM_exitAt M' (2 * i + 1) = gM_exitAt M (2 * i + 1) := h_.2.2.2
set_option maxRecDepth 20000 in
theorem blk_both {f : Bool} {e T : Nat} {ls : Nat → List (Nat × Nat)} {B : TB} {M : TM} (h : RS f e T ls B M) {p : Nat} (hp : p < 256) (hs : gC_serial (gB_cache B) p = 0) (hT : T + 1 < 2 ^ 30) :
    ∃ (r : Int32) (C' : TC) (M' : TM) (T' : Nat) (ls' : Nat → List (Nat × Nat)), fX0_translate (gB_cache B) (gM_memory M) (nI p) = some (r, C') ∧ fX5_hasBlock M (nI p) = some (r, M') ∧ RS f e T' ls' (sB_cache B C') M' ∧ T ≤ T' ∧ T' ≤ T + 1 ∧ (r = 0 ∨ (r = 1 ∧ ¬ gC_serial C' p = 0)) ∧ KB p B M C' M' := by
  obtain ⟨⟨st, mem, iq, outs, gv, wr⟩, ⟨code, lenC, beh, siz, ser, exP, lnk, limit, blocks, filled, trl, fls, dead⟩, rqq, lrq, exe, inv, lku, itp, itr, en, ext⟩ := B
  obtain ⟨rf, memM, reg, inp, im, rq, rm, lr, gvn, size, len, pages, which, exA, exT, room, trn, cnt, kd, by_, fm, fs, fp, fd, ks, lb, ov⟩ := M
  have hm : mem = memM := h.m
  subst hm
  have x := h.out
  have hmb : ∀ i, isB (mem i) := x.mb_
  have hs : ser p = 0 := hs
  have hz : size p = 0 := by
    rcases x.pb_ p hp with q | q
    · exact q.2
    · exact absurd hs (q.nz x.tb_).1
  obtain ⟨r, r1, r2, r3, r4⟩ := x.li_
  subst r3
  subst r4
  have hb0 : ∀ w : Option (Int32 × TM), (∀ z, fX5_find (rf, mem, reg, inp, im, rq, rm, lr, gvn, size, len, pages, which, exA, exT, (nI r), trn, cnt, kd, by_, fm, fs, fp, fd, ks, lb, ov) (nI p) = some z → (if gM_foundMany z = 0 then some (0, z) else if gM_foundSize z ≤ gM_room z then pIn (2 : Int32) 12 (if gM_counts z ((2 : Int32)).toNatClampNeg + gM_foundSize z ≤ gM_room z then fX5_hasBlock_b68 z (nI p) else pB (fX5_empty z) (fun z_8 => pIn (5 : Int32) 12 (pIn (5 : Int32) 12 (pLet (sM_counts z_8 (upd (gM_counts z_8) ((5 : Int32)).toNatClampNeg ((gM_counts z_8) ((5 : Int32)).toNatClampNeg + 1))) (fun u_11 => fX5_hasBlock_b68 u_11 (nI p)))))) else some (0, z)) = w) → (∃ z, fX5_find (rf, mem, reg, inp, im, rq, rm, lr, gvn, size, len, pages, which, exA, exT, (nI r), trn, cnt, kd, by_, fm, fs, fp, fd, ks, lb, ov) (nI p) = some z) → fX5_hasBlock (rf, mem, reg, inp, im, rq, rm, lr, gvn, size, len, pages, which, exA, exT, (nI r), trn, cnt, kd, by_, fm, fs, fp, fd, ks, lb, ov) (nI p) = w := by
    intro w h1 h2
    obtain ⟨z, hz2⟩ := h2
    rw [← h1 z hz2, fX5_hasBlock, pIn_n hp (by omega), cl_n (by omega), if_pos (show gM_size (rf, mem, reg, inp, im, rq, rm, lr, gvn, size, len, pages, which, exA, exT, (nI r), trn, cnt, kd, by_, fm, fs, fp, fd, ks, lb, ov) p ≤ 0 by show size p ≤ 0; rw [hz]; decide), hz2, pB_e2]
  have ux : ∀ (i : Nat), i ≠ p → ∀ (g : Nat → Int32) (x y : Int32), upd (upd g (2 * p) x) (2 * p + 1) y (2 * i) = g (2 * i) := by
    intro i hi g x y
    rw [pk_un (by omega), pk_un (by omega)]
  have uy : ∀ (i : Nat), i ≠ p → ∀ (g : Nat → Int32) (x y : Int32), upd (upd g (2 * p) x) (2 * p + 1) y (2 * i + 1) = g (2 * i + 1) := by
    intro i hi g x y
    rw [pk_un (by omega), pk_un (by omega)]
  rcases dcl_last (m := mem) (p := p) with hl | ⟨pre, q, hl⟩
  · obtain ⟨code', z, a1, a2⟩ := tr_0 (len := lenC) (beh := beh) (siz := siz) (ser := ser) (exP := exP) (lnk := lnk) (limit := nI r) (blocks := blocks) (filled := filled) (trl := trl) (fls := fls) (dead := dead) (code := code) hmb hp hl
    obtain ⟨kd', by', fs', fp', fd', ks', b1⟩ := find_0 (rf := rf) (reg := reg) (inp := inp) (im := im) (rq := rq) (rm := rm) (lr := lr) (gvn := gvn) (size := size) (len := len) (pages := pages) (which := which) (exA := exA) (exT := exT) (room := nI r) (trn := trn) (cnt := cnt) (kd := kd) (by_ := by_) (fm := fm) (fs := fs) (fp := fp) (fd := fd) (ks := ks) (lb := lb) (ov := ov) hmb hp hl
    have hlay := lay_rs (x1 := nI 0) (x2 := nI p) (x3 := z) (kd' := kd') (by' := by') (fm' := nI 0) (fs' := fs') (fp' := fp') (fd' := fd') (ks' := ks') h hp hs a1
    refine ⟨0, _, _, T, ls, a2, hb0 _ (fun z hz2 => ?_) ⟨_, b1⟩, hlay, Nat.le_refl _, by omega, Or.inl rfl, ⟨Eq.refl lb, Eq.refl ov, Eq.refl reg, fun i _ _ => ⟨Eq.refl (exP (2 * i)), Eq.refl (exP (2 * i + 1)), Eq.refl (exA (2 * i)), Eq.refl (exA (2 * i + 1))⟩⟩⟩
    rw [b1] at hz2
    injection hz2 with hz2
    subst hz2
    rw [if_pos (show gM_foundMany (rf, mem, reg, inp, im, rq, rm, lr, gvn, size, len, pages, which, exA, exT, (nI r), trn, cnt, kd', by', (nI 0), fs', fp', fd', ks', lb, ov) = 0 from rfl)]
  · obtain ⟨Z, hZ⟩ : ∃ Z, Z = ((if leaB q.1 = true then 0 else 1) + szC (pre ++ [q])) := ⟨_, rfl⟩
    have hok := mt_ok _ (dcl_mt hmb 8 p)
    have h8 := dcl_len (m := mem) 8 p
    rw [hl] at hok h8
    have hq := hok q (by simp)
    have hll : (pre ++ [q]).length = pre.length + 1 := by simp
    have hZ1 : 1 ≤ Z := by
      have := szC_app pre q
      have := t_one q.1 hq.1
      rw [hZ]
      omega
    have hZ9 : Z < 2 ^ 31 := by
      have := szC_le _ hok
      rw [hZ]
      split <;> omega
    obtain ⟨code', a1, a2, a3⟩ := tr_pre (len := lenC) (beh := beh) (siz := siz) (ser := ser) (exP := exP) (lnk := lnk) (limit := nI r) (blocks := blocks) (filled := filled) (trl := trl) (fls := fls) (dead := dead) (code := code) hmb hp hl hZ
    obtain ⟨kd', by', ks', P, hP, hPb, b1⟩ := find_e (rf := rf) (reg := reg) (inp := inp) (im := im) (rq := rq) (rm := rm) (lr := lr) (gvn := gvn) (size := size) (len := len) (pages := pages) (which := which) (exA := exA) (exT := exT) (room := nI r) (trn := trn) (cnt := cnt) (kd := kd) (by_ := by_) (fm := fm) (fs := fs) (fp := fp) (fd := fd) (ks := ks) (lb := lb) (ov := ov) hmb hp hl
    rw [← hZ] at b1
    have hlay := lay_rs (x1 := nI (pre ++ [q]).length) (x2 := nI ((p + nby (pre ++ [q])) % 256)) (x3 := nI Z) (kd' := kd') (by' := by') (fm' := nI (pre ++ [q]).length) (fs' := nI Z) (fp' := nI P) (fd' := nI (ndd (pre ++ [q]))) (ks' := ks') h hp hs a1
    have y := hlay.out
    have n0 : ¬ nI (pre ++ [q]).length = 0 := by
      rw [hll]
      exact fun z => by have := nI_inj (b := 0) (by omega) (by omega) z; omega
    have hsz0 : ∀ p, p < 256 → size p ≤ 0 → size p = 0 := M0 x.pb_ x.tb_
    have hff : filled = cnt 2 := by
      rw [x.fi_, x.c2_, (cn_eq x.pb_ x.tb_).2]
    by_cases hbig : nI Z ≤ nI r
    · have hZ4 : Z ≤ 400 := by
        rcases Nat.lt_or_ge r Z with q | q
        · exact absurd hbig (nI_ge q (by omega))
        · omega
      rw [if_pos hbig] at a3
      by_cases hfit : filled + nI Z ≤ nI r
      · rw [if_pos hfit, tr_79 hp h8 pk_us hok a2] at a3
        obtain ⟨k1, k2⟩ := keep_rs hlay hp hT hs hz hl a2 pk_us pk_us pk_us hZ1 hZ4 hP hPb
        refine ⟨1, _, _, T + 1, _, a3, hb0 _ (fun z hz2 => ?_) ⟨_, b1⟩, k1, by omega, Nat.le_refl _, Or.inr ⟨rfl, k2⟩, ⟨Eq.refl lb, Eq.refl ov, Eq.refl reg, fun i hi _ => ⟨ux i hi exP _ _, uy i hi exP _ _, ux i hi exA _ _, uy i hi exA _ _⟩⟩⟩
        · rw [b1] at hz2
          injection hz2 with hz2
          subst hz2
          rw [if_neg (show ¬ gM_foundMany (rf, mem, reg, inp, im, rq, rm, lr, gvn, size, len, pages, which, exA, exT, (nI r), trn, cnt, kd', by', (nI (pre ++ [q]).length), (nI Z), (nI P), (nI (ndd (pre ++ [q]))), ks', lb, ov) = 0 from n0), if_pos (show gM_foundSize (rf, mem, reg, inp, im, rq, rm, lr, gvn, size, len, pages, which, exA, exT, (nI r), trn, cnt, kd', by', (nI (pre ++ [q]).length), (nI Z), (nI P), (nI (ndd (pre ++ [q]))), ks', lb, ov) ≤ gM_room (rf, mem, reg, inp, im, rq, rm, lr, gvn, size, len, pages, which, exA, exT, (nI r), trn, cnt, kd', by', (nI (pre ++ [q]).length), (nI Z), (nI P), (nI (ndd (pre ++ [q]))), ks', lb, ov) from hbig), p12_2, if_pos (show gM_counts (rf, mem, reg, inp, im, rq, rm, lr, gvn, size, len, pages, which, exA, exT, (nI r), trn, cnt, kd', by', (nI (pre ++ [q]).length), (nI Z), (nI P), (nI (ndd (pre ++ [q]))), ks', lb, ov) ((2 : Int32)).toNatClampNeg + gM_foundSize (rf, mem, reg, inp, im, rq, rm, lr, gvn, size, len, pages, which, exA, exT, (nI r), trn, cnt, kd', by', (nI (pre ++ [q]).length), (nI Z), (nI P), (nI (ndd (pre ++ [q]))), ks', lb, ov) ≤ gM_room (rf, mem, reg, inp, im, rq, rm, lr, gvn, size, len, pages, which, exA, exT, (nI r), trn, cnt, kd', by', (nI (pre ++ [q]).length), (nI Z), (nI P), (nI (ndd (pre ++ [q]))), ks', lb, ov) by show cnt 2 + nI Z ≤ nI r; rw [← hff]; exact hfit)]
          exact hb68 hp
      · obtain ⟨ser', s1, s2⟩ := empty_c (len := upd lenC p (nI (pre ++ [q]).length)) (beh := upd beh p (nI ((p + nby (pre ++ [q])) % 256))) (siz := upd siz p (nI Z)) (ser := ser) (exP := exP) (lnk := lnk) (limit := nI r) (blocks := blocks) (filled := filled) (trl := trl) (fls := fls) (dead := dead) (code := code')
        obtain ⟨size', m1, m2⟩ := empty_m (v := (rf, mem, reg, inp, im, rq, rm, lr, gvn, size, len, pages, which, exA, exT, (nI r), trn, cnt, kd', by', (nI (pre ++ [q]).length), (nI Z), (nI P), (nI (ndd (pre ++ [q]))), ks', lb, ov)) hsz0 x.c1_ x.c2_
        rw [if_neg hfit, s2, pB_e2, pLet_e] at a3
        have hfl := fls_rs (flush_rs hlay s1 m1 r1 r2)
        have e79 := tr_79 (mem := mem) (len := upd lenC p (nI (pre ++ [q]).length)) (beh := upd beh p (nI ((p + nby (pre ++ [q])) % 256))) (siz := upd siz p (nI Z)) (ser := ser') (exP := exP) (lnk := lnk) (limit := nI r) (blocks := 0) (filled := 0) (trl := trl) (fls := fls + 1) (dead := dead) (D := nI (ndd (pre ++ [q]))) hp h8 pk_us hok a2
        have a4 := a3.trans e79
        obtain ⟨k1, k2⟩ := keep_rs hfl hp hT (s1 p hp) (m1 p hp) hl a2 pk_us pk_us pk_us hZ1 hZ4 hP hPb
        refine ⟨1, _, _, T + 1, _, a4, hb0 _ (fun z hz2 => ?_) ⟨_, b1⟩, k1, by omega, Nat.le_refl _, Or.inr ⟨rfl, k2⟩, ⟨Eq.refl lb, Eq.refl ov, Eq.refl reg, fun i hi _ => ⟨ux i hi exP _ _, uy i hi exP _ _, ux i hi exA _ _, uy i hi exA _ _⟩⟩⟩
        · rw [b1] at hz2
          injection hz2 with hz2
          subst hz2
          rw [if_neg (show ¬ gM_foundMany (rf, mem, reg, inp, im, rq, rm, lr, gvn, size, len, pages, which, exA, exT, (nI r), trn, cnt, kd', by', (nI (pre ++ [q]).length), (nI Z), (nI P), (nI (ndd (pre ++ [q]))), ks', lb, ov) = 0 from n0), if_pos (show gM_foundSize (rf, mem, reg, inp, im, rq, rm, lr, gvn, size, len, pages, which, exA, exT, (nI r), trn, cnt, kd', by', (nI (pre ++ [q]).length), (nI Z), (nI P), (nI (ndd (pre ++ [q]))), ks', lb, ov) ≤ gM_room (rf, mem, reg, inp, im, rq, rm, lr, gvn, size, len, pages, which, exA, exT, (nI r), trn, cnt, kd', by', (nI (pre ++ [q]).length), (nI Z), (nI P), (nI (ndd (pre ++ [q]))), ks', lb, ov) from hbig), p12_2, if_neg (show ¬ gM_counts (rf, mem, reg, inp, im, rq, rm, lr, gvn, size, len, pages, which, exA, exT, (nI r), trn, cnt, kd', by', (nI (pre ++ [q]).length), (nI Z), (nI P), (nI (ndd (pre ++ [q]))), ks', lb, ov) ((2 : Int32)).toNatClampNeg + gM_foundSize (rf, mem, reg, inp, im, rq, rm, lr, gvn, size, len, pages, which, exA, exT, (nI r), trn, cnt, kd', by', (nI (pre ++ [q]).length), (nI Z), (nI P), (nI (ndd (pre ++ [q]))), ks', lb, ov) ≤ gM_room (rf, mem, reg, inp, im, rq, rm, lr, gvn, size, len, pages, which, exA, exT, (nI r), trn, cnt, kd', by', (nI (pre ++ [q]).length), (nI Z), (nI P), (nI (ndd (pre ++ [q]))), ks', lb, ov) by show ¬ cnt 2 + nI Z ≤ nI r; rw [← hff]; exact hfit), m2, pB_e2, p12_5, p12_5, pLet_e, j5]
          exact hb68 hp
    · rw [if_neg hbig] at a3
      refine ⟨0, _, _, T, ls, a3, hb0 _ (fun z hz2 => ?_) ⟨_, b1⟩, hlay, Nat.le_refl _, by omega, Or.inl rfl, ⟨Eq.refl lb, Eq.refl ov, Eq.refl reg, fun i _ _ => ⟨Eq.refl (exP (2 * i)), Eq.refl (exP (2 * i + 1)), Eq.refl (exA (2 * i)), Eq.refl (exA (2 * i + 1))⟩⟩⟩
      rw [b1] at hz2
      injection hz2 with hz2
      subst hz2
      rw [if_neg (show ¬ gM_foundMany (rf, mem, reg, inp, im, rq, rm, lr, gvn, size, len, pages, which, exA, exT, (nI r), trn, cnt, kd', by', (nI (pre ++ [q]).length), (nI Z), (nI P), (nI (ndd (pre ++ [q]))), ks', lb, ov) = 0 from n0), if_neg (show ¬ gM_foundSize (rf, mem, reg, inp, im, rq, rm, lr, gvn, size, len, pages, which, exA, exT, (nI r), trn, cnt, kd', by', (nI (pre ++ [q]).length), (nI Z), (nI P), (nI (ndd (pre ++ [q]))), ks', lb, ov) ≤ gM_room (rf, mem, reg, inp, im, rq, rm, lr, gvn, size, len, pages, which, exA, exT, (nI r), trn, cnt, kd', by', (nI (pre ++ [q]).length), (nI Z), (nI P), (nI (ndd (pre ++ [q]))), ks', lb, ov) from hbig)]

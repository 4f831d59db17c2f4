/-- where an instruction at a leaves the guest -/
def pcx (b n a : Nat) (x : Int32) : Prop := (leaB b = false → x = nI ((a + bytB b) % 256)) ∧ (kC b = 23 ∨ kC b = 25 → x = nI n) ∧ (kC b = 24 ∨ kC b = 29 → x = nI n ∨ x = nI ((a + 2) % 256))
theorem pcx_l {b n a : Nat} {x : Int32} (h : leaB b = false → x = nI ((a + bytB b) % 256)) (hk : ¬ kC b = 23 ∧ ¬ kC b = 25 ∧ ¬ kC b = 24 ∧ ¬ kC b = 29) : pcx b n a x :=
  ⟨h, fun z => absurd z (by omega), fun z => absurd z (by omega)⟩
theorem lea_t {b K : Nat} (hk : kC b = K) (h : ¬ fX1_leavesByItself (nI K) = 0) : ¬ leaB b = false := by
  unfold leaB
  rw [hk]
  simp [h]
set_option maxRecDepth 20000 in
theorem sim_7 {mem reg inp rq gvn size len pages which exA exT cnt ks : Nat → Int32} {rf im rm lr room trn kd by_ fm fs fp fd lb ov : Int32} {f dd : Bool} {st outs : Nat → Int32} {iq : TQ} {gv wr : Int32} {a b n : Nat} (ha : a < 256) (hb : b < 256) (hn : n < 256) (hG : GR f st reg) (hs1 : BI st) (hr1 : BI reg) (h9 : reg 9 = nI a) (hma : mem a = nI b) (hMB : ∀ i, isB (mem i)) (h2 : bytB b = 2 → mem ((a + 1) % 256) = nI n) (hne : neeB b = true → f = true) (hk : kC b = 7) : ∃ st' reg' : Nat → Int32, fX2_execute (st, mem, iq, outs, gv, wr) (nI (wd b n dd)) = some (st', mem, iq, outs, gv, wr) ∧ fX5_step (rf, mem, reg, inp, im, rq, rm, lr, gvn, size, len, pages, which, exA, exT, room, trn, cnt, kd, by_, fm, fs, fp, fd, ks, lb, ov) = some (rf, mem, reg', inp, im, rq, rm, lr, gvn, size, len, pages, which, exA, exT, room, trn, (upd cnt 0 (cnt 0 + 1)), (nI (kM b)), (nI (bytB b)), fm, fs, fp, fd, ks, lb, ov) ∧ GR (!dd) st' reg' ∧ BI st' ∧ BI reg' ∧ pcx b n a (reg' 9) := by
  have hkM : kM b = 7 := by rw [(t_kinds b hb).1, hk]; rfl
  have hB : bytB b = 1 := by unfold bytB; rw [hk]; decide
  obtain ⟨d, hde⟩ : ∃ d, b / 4 % 4 = d := ⟨_, rfl⟩
  obtain ⟨s, hse⟩ : ∃ s, b % 4 = s := ⟨_, rfl⟩
  have hd : d < 4 := by omega
  have hs : s < 4 := by omega
  obtain ⟨x, hx, ex⟩ := hr1.1 d
  obtain ⟨y, hy, ey⟩ := hr1.1 s
  have sd : st d = nI x := (hG.1 d (by omega) (by omega) (by omega)).trans ex
  have ss : st s = nI y := (hG.1 s (by omega) (by omega) (by omega)).trans ey
  have s9 : st 9 = nI a := (hG.1 9 (by omega) (by omega) (by omega)).trans h9
  obtain ⟨n', hn', en'⟩ := hMB ((a + 1) % 256)
  have hpc : (nI a + 1) &&& 255 = nI ((a + 1) % 256) := by rw [nI_1, and255 (by omega)]
  have hst := sp_7 (rf := rf) (inp := inp) (im := im) (rq := rq) (rm := rm) (lr := lr) (gvn := gvn) (size := size) (len := len) (pages := pages) (which := which) (exA := exA) (exT := exT) (room := room) (trn := trn) (cnt := cnt) (kd := kd) (by_ := by_) (fm := fm) (fs := fs) (fp := fp) (fd := fd) (ks := ks) (lb := lb) (ov := ov) ha hb hn' h9 hma en' hkM hB hde hse
  rw [ex, ey] at hst
  rw [show (nI x + nI y) + 0 = nI (x + y) by rw [Int32.add_zero, nI_add], sf_add (by omega) hd] at hst
  have hok := alu_ok (dd := dd) hG hs1 hr1 (pc := (nI ((a + 1) % 256))) (y := ((nI (x + y)) &&& 255)) (r := (nI (x + y))) (isB_lit (Nat.mod_lt _ (by omega))) (isB_and _) hd
  refine ⟨_, _, ?_, by rw [hkM, hB]; exact hst, hok.1, hok.2.1, hok.2.2, pcx_l (fun _ => by rw [hB, mkF_at (by omega) (by omega) (by omega), pk_un (by omega), pk_us]) (by omega)⟩
  have er : st d + st s = nI (x + y) := by rw [sd, ss, nI_add]
  cases dd
  · rw [ex_7 hb hn hk hde hse, s9, hpc, er]; rfl
  · rw [ex_7d hb hn hk hde hse, s9, hpc, er]; rfl
set_option maxRecDepth 20000 in
theorem sim_8 {mem reg inp rq gvn size len pages which exA exT cnt ks : Nat → Int32} {rf im rm lr room trn kd by_ fm fs fp fd lb ov : Int32} {f dd : Bool} {st outs : Nat → Int32} {iq : TQ} {gv wr : Int32} {a b n : Nat} (ha : a < 256) (hb : b < 256) (hn : n < 256) (hG : GR f st reg) (hs1 : BI st) (hr1 : BI reg) (h9 : reg 9 = nI a) (hma : mem a = nI b) (hMB : ∀ i, isB (mem i)) (h2 : bytB b = 2 → mem ((a + 1) % 256) = nI n) (hne : neeB b = true → f = true) (hk : kC b = 8) : ∃ st' reg' : Nat → Int32, fX2_execute (st, mem, iq, outs, gv, wr) (nI (wd b n dd)) = some (st', mem, iq, outs, gv, wr) ∧ fX5_step (rf, mem, reg, inp, im, rq, rm, lr, gvn, size, len, pages, which, exA, exT, room, trn, cnt, kd, by_, fm, fs, fp, fd, ks, lb, ov) = some (rf, mem, reg', inp, im, rq, rm, lr, gvn, size, len, pages, which, exA, exT, room, trn, (upd cnt 0 (cnt 0 + 1)), (nI (kM b)), (nI (bytB b)), fm, fs, fp, fd, ks, lb, ov) ∧ GR (!dd) st' reg' ∧ BI st' ∧ BI reg' ∧ pcx b n a (reg' 9) := by
  have hkM : kM b = 8 := by rw [(t_kinds b hb).1, hk]; rfl
  have hB : bytB b = 1 := by unfold bytB; rw [hk]; decide
  obtain ⟨d, hde⟩ : ∃ d, b / 4 % 4 = d := ⟨_, rfl⟩
  obtain ⟨s, hse⟩ : ∃ s, b % 4 = s := ⟨_, rfl⟩
  have hd : d < 4 := by omega
  have hs : s < 4 := by omega
  obtain ⟨x, hx, ex⟩ := hr1.1 d
  obtain ⟨y, hy, ey⟩ := hr1.1 s
  have sd : st d = nI x := (hG.1 d (by omega) (by omega) (by omega)).trans ex
  have ss : st s = nI y := (hG.1 s (by omega) (by omega) (by omega)).trans ey
  have s9 : st 9 = nI a := (hG.1 9 (by omega) (by omega) (by omega)).trans h9
  obtain ⟨n', hn', en'⟩ := hMB ((a + 1) % 256)
  have hpc : (nI a + 1) &&& 255 = nI ((a + 1) % 256) := by rw [nI_1, and255 (by omega)]
  have hst := sp_8 (rf := rf) (inp := inp) (im := im) (rq := rq) (rm := rm) (lr := lr) (gvn := gvn) (size := size) (len := len) (pages := pages) (which := which) (exA := exA) (exT := exT) (room := room) (trn := trn) (cnt := cnt) (kd := kd) (by_ := by_) (fm := fm) (fs := fs) (fp := fp) (fd := fd) (ks := ks) (lb := lb) (ov := ov) ha hb hn' h9 hma en' hkM hB hde hse
  have hf : f = true := hne (by unfold neeB; rw [hk]; decide)
  have e6 : st 6 = reg 6 := congrFun (hG.2 hf) 6
  obtain ⟨c, ec⟩ : ∃ c : Fin 2, reg 6 = nI c.val := by
    rcases hr1.2.2.1 with h | h
    · exact ⟨0, h⟩
    · exact ⟨1, h⟩
  rw [ex, ey, ec] at hst
  have hc2 := c.isLt
  rw [show (nI x + nI y) + nI c.val = nI (x + y + c.val) by rw [nI_add, nI_add], sf_add (by omega) hd] at hst
  have hok := alu_ok (dd := dd) hG hs1 hr1 (pc := (nI ((a + 1) % 256))) (y := ((nI (x + y + c.val)) &&& 255)) (r := (nI (x + y + c.val))) (isB_lit (Nat.mod_lt _ (by omega))) (isB_and _) hd
  refine ⟨_, _, ?_, by rw [hkM, hB]; exact hst, hok.1, hok.2.1, hok.2.2, pcx_l (fun _ => by rw [hB, mkF_at (by omega) (by omega) (by omega), pk_un (by omega), pk_us]) (by omega)⟩
  have er : (st d + st s) + st 6 = nI (x + y + c.val) := by rw [sd, ss, e6, ec, nI_add, nI_add]
  cases dd
  · rw [ex_8 hb hn hk hde hse, s9, hpc, er]; rfl
  · rw [ex_8d hb hn hk hde hse, s9, hpc, er]; rfl
set_option maxRecDepth 20000 in
theorem sim_9 {mem reg inp rq gvn size len pages which exA exT cnt ks : Nat → Int32} {rf im rm lr room trn kd by_ fm fs fp fd lb ov : Int32} {f dd : Bool} {st outs : Nat → Int32} {iq : TQ} {gv wr : Int32} {a b n : Nat} (ha : a < 256) (hb : b < 256) (hn : n < 256) (hG : GR f st reg) (hs1 : BI st) (hr1 : BI reg) (h9 : reg 9 = nI a) (hma : mem a = nI b) (hMB : ∀ i, isB (mem i)) (h2 : bytB b = 2 → mem ((a + 1) % 256) = nI n) (hne : neeB b = true → f = true) (hk : kC b = 9) : ∃ st' reg' : Nat → Int32, fX2_execute (st, mem, iq, outs, gv, wr) (nI (wd b n dd)) = some (st', mem, iq, outs, gv, wr) ∧ fX5_step (rf, mem, reg, inp, im, rq, rm, lr, gvn, size, len, pages, which, exA, exT, room, trn, cnt, kd, by_, fm, fs, fp, fd, ks, lb, ov) = some (rf, mem, reg', inp, im, rq, rm, lr, gvn, size, len, pages, which, exA, exT, room, trn, (upd cnt 0 (cnt 0 + 1)), (nI (kM b)), (nI (bytB b)), fm, fs, fp, fd, ks, lb, ov) ∧ GR (!dd) st' reg' ∧ BI st' ∧ BI reg' ∧ pcx b n a (reg' 9) := by
  have hkM : kM b = 9 := by rw [(t_kinds b hb).1, hk]; rfl
  have hB : bytB b = 1 := by unfold bytB; rw [hk]; decide
  obtain ⟨d, hde⟩ : ∃ d, b / 4 % 4 = d := ⟨_, rfl⟩
  obtain ⟨s, hse⟩ : ∃ s, b % 4 = s := ⟨_, rfl⟩
  have hd : d < 4 := by omega
  have hs : s < 4 := by omega
  obtain ⟨x, hx, ex⟩ := hr1.1 d
  obtain ⟨y, hy, ey⟩ := hr1.1 s
  have sd : st d = nI x := (hG.1 d (by omega) (by omega) (by omega)).trans ex
  have ss : st s = nI y := (hG.1 s (by omega) (by omega) (by omega)).trans ey
  have s9 : st 9 = nI a := (hG.1 9 (by omega) (by omega) (by omega)).trans h9
  obtain ⟨n', hn', en'⟩ := hMB ((a + 1) % 256)
  have hpc : (nI a + 1) &&& 255 = nI ((a + 1) % 256) := by rw [nI_1, and255 (by omega)]
  have hst := sp_9 (rf := rf) (inp := inp) (im := im) (rq := rq) (rm := rm) (lr := lr) (gvn := gvn) (size := size) (len := len) (pages := pages) (which := which) (exA := exA) (exT := exT) (room := room) (trn := trn) (cnt := cnt) (kd := kd) (by_ := by_) (fm := fm) (fs := fs) (fp := fp) (fd := fd) (ks := ks) (lb := lb) (ov := ov) ha hb hn' h9 hma en' hkM hB hde hse
  rw [ex, ey] at hst
  rw [sf_sub hx hy, mkF_up (by omega)] at hst
  have hok := alu_ok (dd := dd) hG hs1 hr1 (pc := (nI ((a + 1) % 256))) (y := ((nI x - nI y) &&& 255)) (r := (nI x - nI y)) (isB_lit (Nat.mod_lt _ (by omega))) (isB_and _) hd
  refine ⟨_, _, ?_, by rw [hkM, hB]; exact hst, hok.1, hok.2.1, hok.2.2, pcx_l (fun _ => by rw [hB, mkF_at (by omega) (by omega) (by omega), pk_un (by omega), pk_us]) (by omega)⟩
  have er : st d - st s = nI x - nI y := by rw [sd, ss]
  cases dd
  · rw [ex_9 hb hn hk hde hse, s9, hpc, er]; rfl
  · rw [ex_9d hb hn hk hde hse, s9, hpc, er]; rfl
set_option maxRecDepth 20000 in
theorem sim_10 {mem reg inp rq gvn size len pages which exA exT cnt ks : Nat → Int32} {rf im rm lr room trn kd by_ fm fs fp fd lb ov : Int32} {f dd : Bool} {st outs : Nat → Int32} {iq : TQ} {gv wr : Int32} {a b n : Nat} (ha : a < 256) (hb : b < 256) (hn : n < 256) (hG : GR f st reg) (hs1 : BI st) (hr1 : BI reg) (h9 : reg 9 = nI a) (hma : mem a = nI b) (hMB : ∀ i, isB (mem i)) (h2 : bytB b = 2 → mem ((a + 1) % 256) = nI n) (hne : neeB b = true → f = true) (hk : kC b = 10) : ∃ st' reg' : Nat → Int32, fX2_execute (st, mem, iq, outs, gv, wr) (nI (wd b n dd)) = some (st', mem, iq, outs, gv, wr) ∧ fX5_step (rf, mem, reg, inp, im, rq, rm, lr, gvn, size, len, pages, which, exA, exT, room, trn, cnt, kd, by_, fm, fs, fp, fd, ks, lb, ov) = some (rf, mem, reg', inp, im, rq, rm, lr, gvn, size, len, pages, which, exA, exT, room, trn, (upd cnt 0 (cnt 0 + 1)), (nI (kM b)), (nI (bytB b)), fm, fs, fp, fd, ks, lb, ov) ∧ GR (!dd) st' reg' ∧ BI st' ∧ BI reg' ∧ pcx b n a (reg' 9) := by
  have hkM : kM b = 10 := by rw [(t_kinds b hb).1, hk]; rfl
  have hB : bytB b = 1 := by unfold bytB; rw [hk]; decide
  obtain ⟨d, hde⟩ : ∃ d, b / 4 % 4 = d := ⟨_, rfl⟩
  obtain ⟨s, hse⟩ : ∃ s, b % 4 = s := ⟨_, rfl⟩
  have hd : d < 4 := by omega
  have hs : s < 4 := by omega
  obtain ⟨x, hx, ex⟩ := hr1.1 d
  obtain ⟨y, hy, ey⟩ := hr1.1 s
  have sd : st d = nI x := (hG.1 d (by omega) (by omega) (by omega)).trans ex
  have ss : st s = nI y := (hG.1 s (by omega) (by omega) (by omega)).trans ey
  have s9 : st 9 = nI a := (hG.1 9 (by omega) (by omega) (by omega)).trans h9
  obtain ⟨n', hn', en'⟩ := hMB ((a + 1) % 256)
  have hpc : (nI a + 1) &&& 255 = nI ((a + 1) % 256) := by rw [nI_1, and255 (by omega)]
  have hst := sp_10 (rf := rf) (inp := inp) (im := im) (rq := rq) (rm := rm) (lr := lr) (gvn := gvn) (size := size) (len := len) (pages := pages) (which := which) (exA := exA) (exT := exT) (room := room) (trn := trn) (cnt := cnt) (kd := kd) (by_ := by_) (fm := fm) (fs := fs) (fp := fp) (fd := fd) (ks := ks) (lb := lb) (ov := ov) ha hb hn' h9 hma en' hkM hB hde hse
  rw [ex, ey] at hst
  rw [sf_sub hx hy] at hst
  have hok := cmp_ok (dd := dd) hG hs1 hr1 (pc := (nI ((a + 1) % 256))) (r := (nI x - nI y)) (isB_lit (Nat.mod_lt _ (by omega)))
  refine ⟨_, _, ?_, by rw [hkM, hB]; exact hst, hok.1, hok.2.1, hok.2.2, pcx_l (fun _ => by rw [hB, mkF_at (by omega) (by omega) (by omega), pk_us]) (by omega)⟩
  have er : st d - st s = nI x - nI y := by rw [sd, ss]
  cases dd
  · rw [ex_10 hb hn hk hde hse, s9, hpc, er]; rfl
  · rw [ex_10d hb hn hk hde hse, s9, hpc]; rfl
set_option maxRecDepth 20000 in
theorem sim_11 {mem reg inp rq gvn size len pages which exA exT cnt ks : Nat → Int32} {rf im rm lr room trn kd by_ fm fs fp fd lb ov : Int32} {f dd : Bool} {st outs : Nat → Int32} {iq : TQ} {gv wr : Int32} {a b n : Nat} (ha : a < 256) (hb : b < 256) (hn : n < 256) (hG : GR f st reg) (hs1 : BI st) (hr1 : BI reg) (h9 : reg 9 = nI a) (hma : mem a = nI b) (hMB : ∀ i, isB (mem i)) (h2 : bytB b = 2 → mem ((a + 1) % 256) = nI n) (hne : neeB b = true → f = true) (hk : kC b = 11) : ∃ st' reg' : Nat → Int32, fX2_execute (st, mem, iq, outs, gv, wr) (nI (wd b n dd)) = some (st', mem, iq, outs, gv, wr) ∧ fX5_step (rf, mem, reg, inp, im, rq, rm, lr, gvn, size, len, pages, which, exA, exT, room, trn, cnt, kd, by_, fm, fs, fp, fd, ks, lb, ov) = some (rf, mem, reg', inp, im, rq, rm, lr, gvn, size, len, pages, which, exA, exT, room, trn, (upd cnt 0 (cnt 0 + 1)), (nI (kM b)), (nI (bytB b)), fm, fs, fp, fd, ks, lb, ov) ∧ GR (!dd) st' reg' ∧ BI st' ∧ BI reg' ∧ pcx b n a (reg' 9) := by
  have hkM : kM b = 11 := by rw [(t_kinds b hb).1, hk]; rfl
  have hB : bytB b = 1 := by unfold bytB; rw [hk]; decide
  obtain ⟨d, hde⟩ : ∃ d, b / 4 % 4 = d := ⟨_, rfl⟩
  obtain ⟨s, hse⟩ : ∃ s, b % 4 = s := ⟨_, rfl⟩
  have hd : d < 4 := by omega
  have hs : s < 4 := by omega
  obtain ⟨x, hx, ex⟩ := hr1.1 d
  obtain ⟨y, hy, ey⟩ := hr1.1 s
  have sd : st d = nI x := (hG.1 d (by omega) (by omega) (by omega)).trans ex
  have ss : st s = nI y := (hG.1 s (by omega) (by omega) (by omega)).trans ey
  have s9 : st 9 = nI a := (hG.1 9 (by omega) (by omega) (by omega)).trans h9
  obtain ⟨n', hn', en'⟩ := hMB ((a + 1) % 256)
  have hpc : (nI a + 1) &&& 255 = nI ((a + 1) % 256) := by rw [nI_1, and255 (by omega)]
  have hst := sp_11 (rf := rf) (inp := inp) (im := im) (rq := rq) (rm := rm) (lr := lr) (gvn := gvn) (size := size) (len := len) (pages := pages) (which := which) (exA := exA) (exT := exT) (room := room) (trn := trn) (cnt := cnt) (kd := kd) (by_ := by_) (fm := fm) (fs := fs) (fp := fp) (fd := fd) (ks := ks) (lb := lb) (ov := ov) ha hb hn' h9 hma en' hkM hB hde hse
  rw [ex, ey] at hst
  have hlt : x &&& y < 256 := Nat.lt_of_le_of_lt Nat.and_le_left hx
  rw [nI_and2, sf_low hlt] at hst
  have hok := alu_ok (dd := dd) hG hs1 hr1 (pc := (nI ((a + 1) % 256))) (y := (nI (x &&& y))) (r := (nI (x &&& y))) (isB_lit (Nat.mod_lt _ (by omega))) (isB_lit hlt) hd
  refine ⟨_, _, ?_, by rw [hkM, hB]; exact hst, hok.1, hok.2.1, hok.2.2, pcx_l (fun _ => by rw [hB, mkF_at (by omega) (by omega) (by omega), pk_un (by omega), pk_us]) (by omega)⟩
  have er : st d &&& st s = nI (x &&& y) := by rw [sd, ss, nI_and2]
  cases dd
  · rw [ex_11 hb hn hk hde hse, s9, hpc, er, (z_low _ hlt).2]; rfl
  · rw [ex_11d hb hn hk hde hse, s9, hpc, er, (z_low _ hlt).2]; rfl
set_option maxRecDepth 20000 in
theorem sim_12 {mem reg inp rq gvn size len pages which exA exT cnt ks : Nat → Int32} {rf im rm lr room trn kd by_ fm fs fp fd lb ov : Int32} {f dd : Bool} {st outs : Nat → Int32} {iq : TQ} {gv wr : Int32} {a b n : Nat} (ha : a < 256) (hb : b < 256) (hn : n < 256) (hG : GR f st reg) (hs1 : BI st) (hr1 : BI reg) (h9 : reg 9 = nI a) (hma : mem a = nI b) (hMB : ∀ i, isB (mem i)) (h2 : bytB b = 2 → mem ((a + 1) % 256) = nI n) (hne : neeB b = true → f = true) (hk : kC b = 12) : ∃ st' reg' : Nat → Int32, fX2_execute (st, mem, iq, outs, gv, wr) (nI (wd b n dd)) = some (st', mem, iq, outs, gv, wr) ∧ fX5_step (rf, mem, reg, inp, im, rq, rm, lr, gvn, size, len, pages, which, exA, exT, room, trn, cnt, kd, by_, fm, fs, fp, fd, ks, lb, ov) = some (rf, mem, reg', inp, im, rq, rm, lr, gvn, size, len, pages, which, exA, exT, room, trn, (upd cnt 0 (cnt 0 + 1)), (nI (kM b)), (nI (bytB b)), fm, fs, fp, fd, ks, lb, ov) ∧ GR (!dd) st' reg' ∧ BI st' ∧ BI reg' ∧ pcx b n a (reg' 9) := by
  have hkM : kM b = 12 := by rw [(t_kinds b hb).1, hk]; rfl
  have hB : bytB b = 1 := by unfold bytB; rw [hk]; decide
  obtain ⟨d, hde⟩ : ∃ d, b / 4 % 4 = d := ⟨_, rfl⟩
  obtain ⟨s, hse⟩ : ∃ s, b % 4 = s := ⟨_, rfl⟩
  have hd : d < 4 := by omega
  have hs : s < 4 := by omega
  obtain ⟨x, hx, ex⟩ := hr1.1 d
  obtain ⟨y, hy, ey⟩ := hr1.1 s
  have sd : st d = nI x := (hG.1 d (by omega) (by omega) (by omega)).trans ex
  have ss : st s = nI y := (hG.1 s (by omega) (by omega) (by omega)).trans ey
  have s9 : st 9 = nI a := (hG.1 9 (by omega) (by omega) (by omega)).trans h9
  obtain ⟨n', hn', en'⟩ := hMB ((a + 1) % 256)
  have hpc : (nI a + 1) &&& 255 = nI ((a + 1) % 256) := by rw [nI_1, and255 (by omega)]
  have hst := sp_12 (rf := rf) (inp := inp) (im := im) (rq := rq) (rm := rm) (lr := lr) (gvn := gvn) (size := size) (len := len) (pages := pages) (which := which) (exA := exA) (exT := exT) (room := room) (trn := trn) (cnt := cnt) (kd := kd) (by_ := by_) (fm := fm) (fs := fs) (fp := fp) (fd := fd) (ks := ks) (lb := lb) (ov := ov) ha hb hn' h9 hma en' hkM hB hde hse
  rw [ex, ey] at hst
  have hlt : x ^^^ y < 256 := Nat.xor_lt_two_pow (n := 8) hx hy
  rw [nI_xor2, sf_low hlt] at hst
  have hok := alu_ok (dd := dd) hG hs1 hr1 (pc := (nI ((a + 1) % 256))) (y := (nI (x ^^^ y))) (r := (nI (x ^^^ y))) (isB_lit (Nat.mod_lt _ (by omega))) (isB_lit hlt) hd
  refine ⟨_, _, ?_, by rw [hkM, hB]; exact hst, hok.1, hok.2.1, hok.2.2, pcx_l (fun _ => by rw [hB, mkF_at (by omega) (by omega) (by omega), pk_un (by omega), pk_us]) (by omega)⟩
  have er : st d ^^^ st s = nI (x ^^^ y) := by rw [sd, ss, nI_xor2]
  cases dd
  · rw [ex_12 hb hn hk hde hse, s9, hpc, er, (z_low _ hlt).2]; rfl
  · rw [ex_12d hb hn hk hde hse, s9, hpc, er, (z_low _ hlt).2]; rfl
set_option maxRecDepth 20000 in
theorem sim_13 {mem reg inp rq gvn size len pages which exA exT cnt ks : Nat → Int32} {rf im rm lr room trn kd by_ fm fs fp fd lb ov : Int32} {f dd : Bool} {st outs : Nat → Int32} {iq : TQ} {gv wr : Int32} {a b n : Nat} (ha : a < 256) (hb : b < 256) (hn : n < 256) (hG : GR f st reg) (hs1 : BI st) (hr1 : BI reg) (h9 : reg 9 = nI a) (hma : mem a = nI b) (hMB : ∀ i, isB (mem i)) (h2 : bytB b = 2 → mem ((a + 1) % 256) = nI n) (hne : neeB b = true → f = true) (hk : kC b = 13) : ∃ st' reg' : Nat → Int32, fX2_execute (st, mem, iq, outs, gv, wr) (nI (wd b n dd)) = some (st', mem, iq, outs, gv, wr) ∧ fX5_step (rf, mem, reg, inp, im, rq, rm, lr, gvn, size, len, pages, which, exA, exT, room, trn, cnt, kd, by_, fm, fs, fp, fd, ks, lb, ov) = some (rf, mem, reg', inp, im, rq, rm, lr, gvn, size, len, pages, which, exA, exT, room, trn, (upd cnt 0 (cnt 0 + 1)), (nI (kM b)), (nI (bytB b)), fm, fs, fp, fd, ks, lb, ov) ∧ GR (!dd) st' reg' ∧ BI st' ∧ BI reg' ∧ pcx b n a (reg' 9) := by
  have hkM : kM b = 13 := by rw [(t_kinds b hb).1, hk]; rfl
  have hB : bytB b = 1 := by unfold bytB; rw [hk]; decide
  obtain ⟨d, hde⟩ : ∃ d, b / 4 % 4 = d := ⟨_, rfl⟩
  obtain ⟨s, hse⟩ : ∃ s, b % 4 = s := ⟨_, rfl⟩
  have hd : d < 4 := by omega
  have hs : s < 4 := by omega
  obtain ⟨x, hx, ex⟩ := hr1.1 d
  obtain ⟨y, hy, ey⟩ := hr1.1 s
  have sd : st d = nI x := (hG.1 d (by omega) (by omega) (by omega)).trans ex
  have ss : st s = nI y := (hG.1 s (by omega) (by omega) (by omega)).trans ey
  have s9 : st 9 = nI a := (hG.1 9 (by omega) (by omega) (by omega)).trans h9
  obtain ⟨n', hn', en'⟩ := hMB ((a + 1) % 256)
  have hpc : (nI a + 1) &&& 255 = nI ((a + 1) % 256) := by rw [nI_1, and255 (by omega)]
  have hst := sp_13 (rf := rf) (inp := inp) (im := im) (rq := rq) (rm := rm) (lr := lr) (gvn := gvn) (size := size) (len := len) (pages := pages) (which := which) (exA := exA) (exT := exT) (room := room) (trn := trn) (cnt := cnt) (kd := kd) (by_ := by_) (fm := fm) (fs := fs) (fp := fp) (fd := fd) (ks := ks) (lb := lb) (ov := ov) ha hb hn' h9 hma en' hkM hB hde hse
  rw [ex] at hst
  have hzz := z_shl0 x hx
  rw [sf_mk hzz.2.1 hzz.2.2.1 hzz.2.2.2, mkF_up (by omega), hzz.1] at hst
  have hok := alu_ok (dd := dd) hG hs1 hr1 (pc := (nI ((a + 1) % 256))) (y := ((nI x <<< ((1 : Int32) &&& 31)) &&& 255)) (r := (nI x <<< ((1 : Int32) &&& 31))) (isB_lit (Nat.mod_lt _ (by omega))) (isB_and _) hd
  refine ⟨_, _, ?_, by rw [hkM, hB]; exact hst, hok.1, hok.2.1, hok.2.2, pcx_l (fun _ => by rw [hB, mkF_at (by omega) (by omega) (by omega), pk_un (by omega), pk_us]) (by omega)⟩
  cases dd
  · rw [ex_13 hb hn hk hde hse, s9, hpc, sd]; rfl
  · rw [ex_13d hb hn hk hde hse, s9, hpc, sd]; rfl
set_option maxRecDepth 20000 in
theorem sim_14 {mem reg inp rq gvn size len pages which exA exT cnt ks : Nat → Int32} {rf im rm lr room trn kd by_ fm fs fp fd lb ov : Int32} {f dd : Bool} {st outs : Nat → Int32} {iq : TQ} {gv wr : Int32} {a b n : Nat} (ha : a < 256) (hb : b < 256) (hn : n < 256) (hG : GR f st reg) (hs1 : BI st) (hr1 : BI reg) (h9 : reg 9 = nI a) (hma : mem a = nI b) (hMB : ∀ i, isB (mem i)) (h2 : bytB b = 2 → mem ((a + 1) % 256) = nI n) (hne : neeB b = true → f = true) (hk : kC b = 14) : ∃ st' reg' : Nat → Int32, fX2_execute (st, mem, iq, outs, gv, wr) (nI (wd b n dd)) = some (st', mem, iq, outs, gv, wr) ∧ fX5_step (rf, mem, reg, inp, im, rq, rm, lr, gvn, size, len, pages, which, exA, exT, room, trn, cnt, kd, by_, fm, fs, fp, fd, ks, lb, ov) = some (rf, mem, reg', inp, im, rq, rm, lr, gvn, size, len, pages, which, exA, exT, room, trn, (upd cnt 0 (cnt 0 + 1)), (nI (kM b)), (nI (bytB b)), fm, fs, fp, fd, ks, lb, ov) ∧ GR (!dd) st' reg' ∧ BI st' ∧ BI reg' ∧ pcx b n a (reg' 9) := by
  have hkM : kM b = 14 := by rw [(t_kinds b hb).1, hk]; rfl
  have hB : bytB b = 1 := by unfold bytB; rw [hk]; decide
  obtain ⟨d, hde⟩ : ∃ d, b / 4 % 4 = d := ⟨_, rfl⟩
  obtain ⟨s, hse⟩ : ∃ s, b % 4 = s := ⟨_, rfl⟩
  have hd : d < 4 := by omega
  have hs : s < 4 := by omega
  obtain ⟨x, hx, ex⟩ := hr1.1 d
  obtain ⟨y, hy, ey⟩ := hr1.1 s
  have sd : st d = nI x := (hG.1 d (by omega) (by omega) (by omega)).trans ex
  have ss : st s = nI y := (hG.1 s (by omega) (by omega) (by omega)).trans ey
  have s9 : st 9 = nI a := (hG.1 9 (by omega) (by omega) (by omega)).trans h9
  obtain ⟨n', hn', en'⟩ := hMB ((a + 1) % 256)
  have hpc : (nI a + 1) &&& 255 = nI ((a + 1) % 256) := by rw [nI_1, and255 (by omega)]
  have hst := sp_14 (rf := rf) (inp := inp) (im := im) (rq := rq) (rm := rm) (lr := lr) (gvn := gvn) (size := size) (len := len) (pages := pages) (which := which) (exA := exA) (exT := exT) (room := room) (trn := trn) (cnt := cnt) (kd := kd) (by_ := by_) (fm := fm) (fs := fs) (fp := fp) (fd := fd) (ks := ks) (lb := lb) (ov := ov) ha hb hn' h9 hma en' hkM hB hde hse
  rw [ex] at hst
  have hzz := z_shr0 x hx
  rw [sf_mk hzz.2.1 hzz.2.2.1 hzz.2.2.2, mkF_up (by omega), hzz.1] at hst
  have hok := alu_ok (dd := dd) hG hs1 hr1 (pc := (nI ((a + 1) % 256))) (y := (((nI x >>> ((1 : Int32) &&& 31)) ||| ((nI x &&& 1) <<< ((8 : Int32) &&& 31))) &&& 255)) (r := ((nI x >>> ((1 : Int32) &&& 31)) ||| ((nI x &&& 1) <<< ((8 : Int32) &&& 31)))) (isB_lit (Nat.mod_lt _ (by omega))) (isB_and _) hd
  refine ⟨_, _, ?_, by rw [hkM, hB]; exact hst, hok.1, hok.2.1, hok.2.2, pcx_l (fun _ => by rw [hB, mkF_at (by omega) (by omega) (by omega), pk_un (by omega), pk_us]) (by omega)⟩
  cases dd
  · rw [ex_14 hb hn hk hde hse, s9, hpc, sd]; rfl
  · rw [ex_14d hb hn hk hde hse, s9, hpc, sd]; rfl
set_option maxRecDepth 20000 in
theorem sim_15 {mem reg inp rq gvn size len pages which exA exT cnt ks : Nat → Int32} {rf im rm lr room trn kd by_ fm fs fp fd lb ov : Int32} {f dd : Bool} {st outs : Nat → Int32} {iq : TQ} {gv wr : Int32} {a b n : Nat} (ha : a < 256) (hb : b < 256) (hn : n < 256) (hG : GR f st reg) (hs1 : BI st) (hr1 : BI reg) (h9 : reg 9 = nI a) (hma : mem a = nI b) (hMB : ∀ i, isB (mem i)) (h2 : bytB b = 2 → mem ((a + 1) % 256) = nI n) (hne : neeB b = true → f = true) (hk : kC b = 15) : ∃ st' reg' : Nat → Int32, fX2_execute (st, mem, iq, outs, gv, wr) (nI (wd b n dd)) = some (st', mem, iq, outs, gv, wr) ∧ fX5_step (rf, mem, reg, inp, im, rq, rm, lr, gvn, size, len, pages, which, exA, exT, room, trn, cnt, kd, by_, fm, fs, fp, fd, ks, lb, ov) = some (rf, mem, reg', inp, im, rq, rm, lr, gvn, size, len, pages, which, exA, exT, room, trn, (upd cnt 0 (cnt 0 + 1)), (nI (kM b)), (nI (bytB b)), fm, fs, fp, fd, ks, lb, ov) ∧ GR (!dd) st' reg' ∧ BI st' ∧ BI reg' ∧ pcx b n a (reg' 9) := by
  have hkM : kM b = 15 := by rw [(t_kinds b hb).1, hk]; rfl
  have hB : bytB b = 1 := by unfold bytB; rw [hk]; decide
  obtain ⟨d, hde⟩ : ∃ d, b / 4 % 4 = d := ⟨_, rfl⟩
  obtain ⟨s, hse⟩ : ∃ s, b % 4 = s := ⟨_, rfl⟩
  have hd : d < 4 := by omega
  have hs : s < 4 := by omega
  obtain ⟨x, hx, ex⟩ := hr1.1 d
  obtain ⟨y, hy, ey⟩ := hr1.1 s
  have sd : st d = nI x := (hG.1 d (by omega) (by omega) (by omega)).trans ex
  have ss : st s = nI y := (hG.1 s (by omega) (by omega) (by omega)).trans ey
  have s9 : st 9 = nI a := (hG.1 9 (by omega) (by omega) (by omega)).trans h9
  obtain ⟨n', hn', en'⟩ := hMB ((a + 1) % 256)
  have hpc : (nI a + 1) &&& 255 = nI ((a + 1) % 256) := by rw [nI_1, and255 (by omega)]
  have hst := sp_15 (rf := rf) (inp := inp) (im := im) (rq := rq) (rm := rm) (lr := lr) (gvn := gvn) (size := size) (len := len) (pages := pages) (which := which) (exA := exA) (exT := exT) (room := room) (trn := trn) (cnt := cnt) (kd := kd) (by_ := by_) (fm := fm) (fs := fs) (fp := fp) (fd := fd) (ks := ks) (lb := lb) (ov := ov) ha hb hn' h9 hma en' hkM hB hde hse
  have hf : f = true := hne (by unfold neeB; rw [hk]; decide)
  have e6 : st 6 = reg 6 := congrFun (hG.2 hf) 6
  obtain ⟨c, ec⟩ : ∃ c : Fin 2, reg 6 = nI c.val := by
    rcases hr1.2.2.1 with h | h
    · exact ⟨0, h⟩
    · exact ⟨1, h⟩
  rw [ex, ec] at hst
  have hzz := z_shl x hx c
  rw [sf_mk hzz.2.1 hzz.2.2.1 hzz.2.2.2, mkF_up (by omega), hzz.1] at hst
  have hok := alu_ok (dd := dd) hG hs1 hr1 (pc := (nI ((a + 1) % 256))) (y := (((nI x <<< ((1 : Int32) &&& 31)) ||| nI c.val) &&& 255)) (r := ((nI x <<< ((1 : Int32) &&& 31)) ||| nI c.val)) (isB_lit (Nat.mod_lt _ (by omega))) (isB_and _) hd
  refine ⟨_, _, ?_, by rw [hkM, hB]; exact hst, hok.1, hok.2.1, hok.2.2, pcx_l (fun _ => by rw [hB, mkF_at (by omega) (by omega) (by omega), pk_un (by omega), pk_us]) (by omega)⟩
  cases dd
  · rw [ex_15 hb hn hk hde hse, s9, hpc, sd, e6, ec]; rfl
  · rw [ex_15d hb hn hk hde hse, s9, hpc, sd, e6, ec]; rfl
set_option maxRecDepth 20000 in
theorem sim_16 {mem reg inp rq gvn size len pages which exA exT cnt ks : Nat → Int32} {rf im rm lr room trn kd by_ fm fs fp fd lb ov : Int32} {f dd : Bool} {st outs : Nat → Int32} {iq : TQ} {gv wr : Int32} {a b n : Nat} (ha : a < 256) (hb : b < 256) (hn : n < 256) (hG : GR f st reg) (hs1 : BI st) (hr1 : BI reg) (h9 : reg 9 = nI a) (hma : mem a = nI b) (hMB : ∀ i, isB (mem i)) (h2 : bytB b = 2 → mem ((a + 1) % 256) = nI n) (hne : neeB b = true → f = true) (hk : kC b = 16) : ∃ st' reg' : Nat → Int32, fX2_execute (st, mem, iq, outs, gv, wr) (nI (wd b n dd)) = some (st', mem, iq, outs, gv, wr) ∧ fX5_step (rf, mem, reg, inp, im, rq, rm, lr, gvn, size, len, pages, which, exA, exT, room, trn, cnt, kd, by_, fm, fs, fp, fd, ks, lb, ov) = some (rf, mem, reg', inp, im, rq, rm, lr, gvn, size, len, pages, which, exA, exT, room, trn, (upd cnt 0 (cnt 0 + 1)), (nI (kM b)), (nI (bytB b)), fm, fs, fp, fd, ks, lb, ov) ∧ GR (!dd) st' reg' ∧ BI st' ∧ BI reg' ∧ pcx b n a (reg' 9) := by
  have hkM : kM b = 16 := by rw [(t_kinds b hb).1, hk]; rfl
  have hB : bytB b = 1 := by unfold bytB; rw [hk]; decide
  obtain ⟨d, hde⟩ : ∃ d, b / 4 % 4 = d := ⟨_, rfl⟩
  obtain ⟨s, hse⟩ : ∃ s, b % 4 = s := ⟨_, rfl⟩
  have hd : d < 4 := by omega
  have hs : s < 4 := by omega
  obtain ⟨x, hx, ex⟩ := hr1.1 d
  obtain ⟨y, hy, ey⟩ := hr1.1 s
  have sd : st d = nI x := (hG.1 d (by omega) (by omega) (by omega)).trans ex
  have ss : st s = nI y := (hG.1 s (by omega) (by omega) (by omega)).trans ey
  have s9 : st 9 = nI a := (hG.1 9 (by omega) (by omega) (by omega)).trans h9
  obtain ⟨n', hn', en'⟩ := hMB ((a + 1) % 256)
  have hpc : (nI a + 1) &&& 255 = nI ((a + 1) % 256) := by rw [nI_1, and255 (by omega)]
  have hst := sp_16 (rf := rf) (inp := inp) (im := im) (rq := rq) (rm := rm) (lr := lr) (gvn := gvn) (size := size) (len := len) (pages := pages) (which := which) (exA := exA) (exT := exT) (room := room) (trn := trn) (cnt := cnt) (kd := kd) (by_ := by_) (fm := fm) (fs := fs) (fp := fp) (fd := fd) (ks := ks) (lb := lb) (ov := ov) ha hb hn' h9 hma en' hkM hB hde hse
  have hf : f = true := hne (by unfold neeB; rw [hk]; decide)
  have e6 : st 6 = reg 6 := congrFun (hG.2 hf) 6
  obtain ⟨c, ec⟩ : ∃ c : Fin 2, reg 6 = nI c.val := by
    rcases hr1.2.2.1 with h | h
    · exact ⟨0, h⟩
    · exact ⟨1, h⟩
  rw [ex, ec] at hst
  have hzz := z_shr x hx c
  rw [sf_mk hzz.2.1 hzz.2.2.1 hzz.2.2.2, mkF_up (by omega)] at hst
  generalize hr0 : (((nI x >>> ((1 : Int32) &&& 31)) ||| (nI c.val <<< ((7 : Int32) &&& 31))) ||| ((nI x &&& 1) <<< ((8 : Int32) &&& 31))) = r0 at hst hzz
  rw [hzz.1] at hst
  have hok := alu_ok (dd := dd) hG hs1 hr1 (pc := (nI ((a + 1) % 256))) (y := (r0 &&& 255)) (r := r0) (isB_lit (Nat.mod_lt _ (by omega))) (isB_and _) hd
  refine ⟨_, _, ?_, by rw [hkM, hB]; exact hst, hok.1, hok.2.1, hok.2.2, pcx_l (fun _ => by rw [hB, mkF_at (by omega) (by omega) (by omega), pk_un (by omega), pk_us]) (by omega)⟩
  cases dd
  · rw [ex_16 hb hn hk hde hse, s9, hpc, sd, e6, ec, hr0]; rfl
  · rw [ex_16d hb hn hk hde hse, s9, hpc, sd, e6, ec, hr0]; rfl
set_option maxRecDepth 20000 in
theorem sim_18 {mem reg inp rq gvn size len pages which exA exT cnt ks : Nat → Int32} {rf im rm lr room trn kd by_ fm fs fp fd lb ov : Int32} {f dd : Bool} {st outs : Nat → Int32} {iq : TQ} {gv wr : Int32} {a b n : Nat} (ha : a < 256) (hb : b < 256) (hn : n < 256) (hG : GR f st reg) (hs1 : BI st) (hr1 : BI reg) (h9 : reg 9 = nI a) (hma : mem a = nI b) (hMB : ∀ i, isB (mem i)) (h2 : bytB b = 2 → mem ((a + 1) % 256) = nI n) (hne : neeB b = true → f = true) (hk : kC b = 18) : ∃ st' reg' : Nat → Int32, fX2_execute (st, mem, iq, outs, gv, wr) (nI (wd b n dd)) = some (st', mem, iq, outs, gv, wr) ∧ fX5_step (rf, mem, reg, inp, im, rq, rm, lr, gvn, size, len, pages, which, exA, exT, room, trn, cnt, kd, by_, fm, fs, fp, fd, ks, lb, ov) = some (rf, mem, reg', inp, im, rq, rm, lr, gvn, size, len, pages, which, exA, exT, room, trn, (upd cnt 0 (cnt 0 + 1)), (nI (kM b)), (nI (bytB b)), fm, fs, fp, fd, ks, lb, ov) ∧ GR (!dd) st' reg' ∧ BI st' ∧ BI reg' ∧ pcx b n a (reg' 9) := by
  have hkM : kM b = 18 := by rw [(t_kinds b hb).1, hk]; rfl
  have hB : bytB b = 2 := by unfold bytB; rw [hk]; decide
  obtain ⟨d, hde⟩ : ∃ d, b / 4 % 4 = d := ⟨_, rfl⟩
  obtain ⟨s, hse⟩ : ∃ s, b % 4 = s := ⟨_, rfl⟩
  have hd : d < 4 := by omega
  have hs : s < 4 := by omega
  obtain ⟨x, hx, ex⟩ := hr1.1 d
  obtain ⟨y, hy, ey⟩ := hr1.1 s
  have sd : st d = nI x := (hG.1 d (by omega) (by omega) (by omega)).trans ex
  have ss : st s = nI y := (hG.1 s (by omega) (by omega) (by omega)).trans ey
  have s9 : st 9 = nI a := (hG.1 9 (by omega) (by omega) (by omega)).trans h9
  have hpc : (nI a + 2) &&& 255 = nI ((a + 2) % 256) := by rw [show (2 : Int32) = nI 2 from rfl, nI_add, and255 (by omega)]
  have hst := sp_18 (rf := rf) (inp := inp) (im := im) (rq := rq) (rm := rm) (lr := lr) (gvn := gvn) (size := size) (len := len) (pages := pages) (which := which) (exA := exA) (exT := exT) (room := room) (trn := trn) (cnt := cnt) (kd := kd) (by_ := by_) (fm := fm) (fs := fs) (fp := fp) (fd := fd) (ks := ks) (lb := lb) (ov := ov) ha hb hn h9 hma (h2 hB) hkM hB hde hse
  rw [hpc] at hst
  rw [ex] at hst
  rw [show (nI x + nI n) + 0 = nI (x + n) by rw [Int32.add_zero, nI_add], sf_add (by omega) hd] at hst
  have hok := alu_ok (dd := dd) hG hs1 hr1 (pc := (nI ((a + 2) % 256))) (y := ((nI (x + n)) &&& 255)) (r := (nI (x + n))) (isB_lit (Nat.mod_lt _ (by omega))) (isB_and _) hd
  refine ⟨_, _, ?_, by rw [hkM, hB]; exact hst, hok.1, hok.2.1, hok.2.2, pcx_l (fun _ => by rw [hB, mkF_at (by omega) (by omega) (by omega), pk_un (by omega), pk_us]) (by omega)⟩
  have er : st d + nI n = nI (x + n) := by rw [sd, nI_add]
  cases dd
  · rw [ex_18 hb hn hk hde hse, s9, hpc, er]; rfl
  · rw [ex_18d hb hn hk hde hse, s9, hpc, er]; rfl
set_option maxRecDepth 20000 in
theorem sim_19 {mem reg inp rq gvn size len pages which exA exT cnt ks : Nat → Int32} {rf im rm lr room trn kd by_ fm fs fp fd lb ov : Int32} {f dd : Bool} {st outs : Nat → Int32} {iq : TQ} {gv wr : Int32} {a b n : Nat} (ha : a < 256) (hb : b < 256) (hn : n < 256) (hG : GR f st reg) (hs1 : BI st) (hr1 : BI reg) (h9 : reg 9 = nI a) (hma : mem a = nI b) (hMB : ∀ i, isB (mem i)) (h2 : bytB b = 2 → mem ((a + 1) % 256) = nI n) (hne : neeB b = true → f = true) (hk : kC b = 19) : ∃ st' reg' : Nat → Int32, fX2_execute (st, mem, iq, outs, gv, wr) (nI (wd b n dd)) = some (st', mem, iq, outs, gv, wr) ∧ fX5_step (rf, mem, reg, inp, im, rq, rm, lr, gvn, size, len, pages, which, exA, exT, room, trn, cnt, kd, by_, fm, fs, fp, fd, ks, lb, ov) = some (rf, mem, reg', inp, im, rq, rm, lr, gvn, size, len, pages, which, exA, exT, room, trn, (upd cnt 0 (cnt 0 + 1)), (nI (kM b)), (nI (bytB b)), fm, fs, fp, fd, ks, lb, ov) ∧ GR (!dd) st' reg' ∧ BI st' ∧ BI reg' ∧ pcx b n a (reg' 9) := by
  have hkM : kM b = 19 := by rw [(t_kinds b hb).1, hk]; rfl
  have hB : bytB b = 2 := by unfold bytB; rw [hk]; decide
  obtain ⟨d, hde⟩ : ∃ d, b / 4 % 4 = d := ⟨_, rfl⟩
  obtain ⟨s, hse⟩ : ∃ s, b % 4 = s := ⟨_, rfl⟩
  have hd : d < 4 := by omega
  have hs : s < 4 := by omega
  obtain ⟨x, hx, ex⟩ := hr1.1 d
  obtain ⟨y, hy, ey⟩ := hr1.1 s
  have sd : st d = nI x := (hG.1 d (by omega) (by omega) (by omega)).trans ex
  have ss : st s = nI y := (hG.1 s (by omega) (by omega) (by omega)).trans ey
  have s9 : st 9 = nI a := (hG.1 9 (by omega) (by omega) (by omega)).trans h9
  have hpc : (nI a + 2) &&& 255 = nI ((a + 2) % 256) := by rw [show (2 : Int32) = nI 2 from rfl, nI_add, and255 (by omega)]
  have hst := sp_19 (rf := rf) (inp := inp) (im := im) (rq := rq) (rm := rm) (lr := lr) (gvn := gvn) (size := size) (len := len) (pages := pages) (which := which) (exA := exA) (exT := exT) (room := room) (trn := trn) (cnt := cnt) (kd := kd) (by_ := by_) (fm := fm) (fs := fs) (fp := fp) (fd := fd) (ks := ks) (lb := lb) (ov := ov) ha hb hn h9 hma (h2 hB) hkM hB hde hse
  rw [hpc] at hst
  rw [ex] at hst
  rw [sf_sub hx hn] at hst
  have hok := cmp_ok (dd := dd) hG hs1 hr1 (pc := (nI ((a + 2) % 256))) (r := (nI x - nI n)) (isB_lit (Nat.mod_lt _ (by omega)))
  refine ⟨_, _, ?_, by rw [hkM, hB]; exact hst, hok.1, hok.2.1, hok.2.2, pcx_l (fun _ => by rw [hB, mkF_at (by omega) (by omega) (by omega), pk_us]) (by omega)⟩
  have er : st d - nI n = nI x - nI n := by rw [sd]
  cases dd
  · rw [ex_19 hb hn hk hde hse, s9, hpc, er]; rfl
  · rw [ex_19d hb hn hk hde hse, s9, hpc]; rfl
set_option maxRecDepth 20000 in
theorem sim_20 {mem reg inp rq gvn size len pages which exA exT cnt ks : Nat → Int32} {rf im rm lr room trn kd by_ fm fs fp fd lb ov : Int32} {f dd : Bool} {st outs : Nat → Int32} {iq : TQ} {gv wr : Int32} {a b n : Nat} (ha : a < 256) (hb : b < 256) (hn : n < 256) (hG : GR f st reg) (hs1 : BI st) (hr1 : BI reg) (h9 : reg 9 = nI a) (hma : mem a = nI b) (hMB : ∀ i, isB (mem i)) (h2 : bytB b = 2 → mem ((a + 1) % 256) = nI n) (hne : neeB b = true → f = true) (hk : kC b = 20) : ∃ st' reg' : Nat → Int32, fX2_execute (st, mem, iq, outs, gv, wr) (nI (wd b n dd)) = some (st', mem, iq, outs, gv, wr) ∧ fX5_step (rf, mem, reg, inp, im, rq, rm, lr, gvn, size, len, pages, which, exA, exT, room, trn, cnt, kd, by_, fm, fs, fp, fd, ks, lb, ov) = some (rf, mem, reg', inp, im, rq, rm, lr, gvn, size, len, pages, which, exA, exT, room, trn, (upd cnt 0 (cnt 0 + 1)), (nI (kM b)), (nI (bytB b)), fm, fs, fp, fd, ks, lb, ov) ∧ GR (!dd) st' reg' ∧ BI st' ∧ BI reg' ∧ pcx b n a (reg' 9) := by
  have hkM : kM b = 20 := by rw [(t_kinds b hb).1, hk]; rfl
  have hB : bytB b = 2 := by unfold bytB; rw [hk]; decide
  obtain ⟨d, hde⟩ : ∃ d, b / 4 % 4 = d := ⟨_, rfl⟩
  obtain ⟨s, hse⟩ : ∃ s, b % 4 = s := ⟨_, rfl⟩
  have hd : d < 4 := by omega
  have hs : s < 4 := by omega
  obtain ⟨x, hx, ex⟩ := hr1.1 d
  obtain ⟨y, hy, ey⟩ := hr1.1 s
  have sd : st d = nI x := (hG.1 d (by omega) (by omega) (by omega)).trans ex
  have ss : st s = nI y := (hG.1 s (by omega) (by omega) (by omega)).trans ey
  have s9 : st 9 = nI a := (hG.1 9 (by omega) (by omega) (by omega)).trans h9
  have hpc : (nI a + 2) &&& 255 = nI ((a + 2) % 256) := by rw [show (2 : Int32) = nI 2 from rfl, nI_add, and255 (by omega)]
  have hst := sp_20 (rf := rf) (inp := inp) (im := im) (rq := rq) (rm := rm) (lr := lr) (gvn := gvn) (size := size) (len := len) (pages := pages) (which := which) (exA := exA) (exT := exT) (room := room) (trn := trn) (cnt := cnt) (kd := kd) (by_ := by_) (fm := fm) (fs := fs) (fp := fp) (fd := fd) (ks := ks) (lb := lb) (ov := ov) ha hb hn h9 hma (h2 hB) hkM hB hde hse
  rw [hpc] at hst
  rw [ex] at hst
  have hlt : x ^^^ n < 256 := Nat.xor_lt_two_pow (n := 8) hx hn
  rw [nI_xor2, sf_low hlt] at hst
  have hok := alu_ok (dd := dd) hG hs1 hr1 (pc := (nI ((a + 2) % 256))) (y := (nI (x ^^^ n))) (r := (nI (x ^^^ n))) (isB_lit (Nat.mod_lt _ (by omega))) (isB_lit hlt) hd
  refine ⟨_, _, ?_, by rw [hkM, hB]; exact hst, hok.1, hok.2.1, hok.2.2, pcx_l (fun _ => by rw [hB, mkF_at (by omega) (by omega) (by omega), pk_un (by omega), pk_us]) (by omega)⟩
  have er : st d ^^^ nI n = nI (x ^^^ n) := by rw [sd, nI_xor2]
  cases dd
  · rw [ex_20 hb hn hk hde hse, s9, hpc, er, (z_low _ hlt).2]; rfl
  · rw [ex_20d hb hn hk hde hse, s9, hpc, er, (z_low _ hlt).2]; rfl

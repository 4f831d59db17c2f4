theorem upd_same {R : Nat → Int32} {p : Int32} : upd (upd R 9 p) 9 p = upd R 9 p := by
  funext i
  by_cases h : i = 9
  · subst h; rw [pk_us, pk_us]
  · rw [pk_un h]
theorem upd_9d {R : Nat → Int32} {p y : Int32} {d : Nat} (hd : d < 4) : upd (upd (upd R 9 p) d y) 9 p = upd (upd R 9 p) d y := by
  funext i
  by_cases h : i = 9
  · subst h; rw [pk_us, pk_un (by omega), pk_us]
  · rw [pk_un h]
set_option maxRecDepth 20000 in
theorem sim_1 {mem reg inp rq gvn size len pages which exA exT cnt ks : Nat → Int32} {rf im rm lr room trn kd by_ fm fs fp fd lb ov : Int32} {f : Bool} {st outs : Nat → Int32} {iq : TQ} {gv wr : Int32} {a b n : Nat} (ha : a < 256) (hb : b < 256) (hn : n < 256) (hG : GR f st reg) (hs1 : BI st) (hr1 : BI reg) (h9 : reg 9 = nI a) (hma : mem a = nI b) (hMB : ∀ i, isB (mem i)) (h2 : bytB b = 2 → mem ((a + 1) % 256) = nI n) (hne : neeB b = true → f = true) (hk : kC b = 1) : ∃ st' reg' : Nat → Int32, fX2_execute (st, mem, iq, outs, gv, wr) (nI (wd b n false)) = some (st', mem, iq, outs, gv, wr) ∧ fX5_step (rf, mem, reg, inp, im, rq, rm, lr, gvn, size, len, pages, which, exA, exT, room, trn, cnt, kd, by_, fm, fs, fp, fd, ks, lb, ov) = some (rf, mem, reg', inp, im, rq, rm, lr, gvn, size, len, pages, which, exA, exT, room, trn, (upd (upd cnt 0 (cnt 0 + 1)) 11 1), (nI (kM b)), (nI (bytB b)), fm, fs, fp, fd, ks, lb, 1) ∧ GR f st' reg' ∧ BI st' ∧ BI reg' ∧ pcx b n a (reg' 9) := by
  have hkM : kM b = 1 := by rw [(t_kinds b hb).1, hk]; rfl
  have hB : bytB b = 1 := by unfold bytB; rw [hk]; decide
  obtain ⟨d, hde⟩ : ∃ d, b / 4 % 4 = d := ⟨_, rfl⟩
  obtain ⟨s, hse⟩ : ∃ s, b % 4 = s := ⟨_, rfl⟩
  have hd : d < 4 := by omega
  have hs : s < 4 := by omega
  have sd : st d = reg d := hG.1 d (by omega) (by omega) (by omega)
  have ss : st s = reg s := hG.1 s (by omega) (by omega) (by omega)
  have s4 : st 4 = reg 4 := hG.1 4 (by omega) (by omega) (by omega)
  have s9 : st 9 = nI a := (hG.1 9 (by omega) (by omega) (by omega)).trans h9
  obtain ⟨n', hn', en'⟩ := hMB ((a + 1) % 256)
  have hpc : (nI a + 1) &&& 255 = nI ((a + 1) % 256) := by rw [nI_1, and255 (by omega)]
  have hst := sp_1 (rf := rf) (inp := inp) (im := im) (rq := rq) (rm := rm) (lr := lr) (gvn := gvn) (size := size) (len := len) (pages := pages) (which := which) (exA := exA) (exT := exT) (room := room) (trn := trn) (cnt := cnt) (kd := kd) (by_ := by_) (fm := fm) (fs := fs) (fp := fp) (fd := fd) (ks := ks) (lb := lb) (ov := ov) ha hb hn' h9 hma en' hkM hB hde hse
  refine ⟨_, _, ?_, by rw [hkM, hB]; exact hst, hG.up 9 (nI ((a + 1) % 256)), hs1.up (i := 9) (x := (nI ((a + 1) % 256))) (isB_lit (Nat.mod_lt _ (by omega))) (by omega), hr1.up (i := 9) (x := (nI ((a + 1) % 256))) (isB_lit (Nat.mod_lt _ (by omega))) (by omega), ⟨fun z => absurd z (lea_t hk (by decide)), fun z => absurd z (by omega), fun z => absurd z (by omega)⟩⟩
  rw [ex_1 hb hn hk hde hse, s9, hpc]
set_option maxRecDepth 20000 in
theorem sim_4 {mem reg inp rq gvn size len pages which exA exT cnt ks : Nat → Int32} {rf im rm lr room trn kd by_ fm fs fp fd lb ov : Int32} {f : Bool} {st outs : Nat → Int32} {iq : TQ} {gv wr : Int32} {a b n : Nat} (ha : a < 256) (hb : b < 256) (hn : n < 256) (hG : GR f st reg) (hs1 : BI st) (hr1 : BI reg) (h9 : reg 9 = nI a) (hma : mem a = nI b) (hMB : ∀ i, isB (mem i)) (h2 : bytB b = 2 → mem ((a + 1) % 256) = nI n) (hne : neeB b = true → f = true) (hk : kC b = 4) : ∃ st' reg' : Nat → Int32, fX2_execute (st, mem, iq, outs, gv, wr) (nI (wd b n false)) = some (st', mem, iq, outs, gv, wr) ∧ fX5_step (rf, mem, reg, inp, im, rq, rm, lr, gvn, size, len, pages, which, exA, exT, room, trn, cnt, kd, by_, fm, fs, fp, fd, ks, lb, ov) = some (rf, mem, reg', inp, im, rq, rm, lr, gvn, size, len, pages, which, exA, exT, room, trn, (upd cnt 0 (cnt 0 + 1)), (nI (kM b)), (nI (bytB b)), fm, fs, fp, fd, ks, lb, ov) ∧ GR f st' reg' ∧ BI st' ∧ BI reg' ∧ pcx b n a (reg' 9) := by
  have hkM : kM b = 4 := by rw [(t_kinds b hb).1, hk]; rfl
  have hB : bytB b = 1 := by unfold bytB; rw [hk]; decide
  obtain ⟨d, hde⟩ : ∃ d, b / 4 % 4 = d := ⟨_, rfl⟩
  obtain ⟨s, hse⟩ : ∃ s, b % 4 = s := ⟨_, rfl⟩
  have hd : d < 4 := by omega
  have hs : s < 4 := by omega
  have sd : st d = reg d := hG.1 d (by omega) (by omega) (by omega)
  have ss : st s = reg s := hG.1 s (by omega) (by omega) (by omega)
  have s4 : st 4 = reg 4 := hG.1 4 (by omega) (by omega) (by omega)
  have s9 : st 9 = nI a := (hG.1 9 (by omega) (by omega) (by omega)).trans h9
  obtain ⟨n', hn', en'⟩ := hMB ((a + 1) % 256)
  have hpc : (nI a + 1) &&& 255 = nI ((a + 1) % 256) := by rw [nI_1, and255 (by omega)]
  have hst := sp_4 (rf := rf) (inp := inp) (im := im) (rq := rq) (rm := rm) (lr := lr) (gvn := gvn) (size := size) (len := len) (pages := pages) (which := which) (exA := exA) (exT := exT) (room := room) (trn := trn) (cnt := cnt) (kd := kd) (by_ := by_) (fm := fm) (fs := fs) (fp := fp) (fd := fd) (ks := ks) (lb := lb) (ov := ov) ha hb hn' h9 hma en' hkM hB hde hse
  refine ⟨_, _, ?_, by rw [hkM, hB]; exact hst, (hG.up 9 (nI ((a + 1) % 256))).up 8 1, (hs1.up (i := 9) (x := (nI ((a + 1) % 256))) (isB_lit (Nat.mod_lt _ (by omega))) (by omega)).up8 (Or.inr rfl), (hr1.up (i := 9) (x := (nI ((a + 1) % 256))) (isB_lit (Nat.mod_lt _ (by omega))) (by omega)).up8 (Or.inr rfl), pcx_l (fun _ => by rw [hB, pk_un (by omega), pk_us]) (by omega)⟩
  rw [ex_4 hb hn hk hde hse, s9, hpc]
set_option maxRecDepth 20000 in
theorem sim_5 {mem reg inp rq gvn size len pages which exA exT cnt ks : Nat → Int32} {rf im rm lr room trn kd by_ fm fs fp fd lb ov : Int32} {f : Bool} {st outs : Nat → Int32} {iq : TQ} {gv wr : Int32} {a b n : Nat} (ha : a < 256) (hb : b < 256) (hn : n < 256) (hG : GR f st reg) (hs1 : BI st) (hr1 : BI reg) (h9 : reg 9 = nI a) (hma : mem a = nI b) (hMB : ∀ i, isB (mem i)) (h2 : bytB b = 2 → mem ((a + 1) % 256) = nI n) (hne : neeB b = true → f = true) (hk : kC b = 5) : ∃ st' reg' : Nat → Int32, fX2_execute (st, mem, iq, outs, gv, wr) (nI (wd b n false)) = some (st', mem, iq, outs, gv, wr) ∧ fX5_step (rf, mem, reg, inp, im, rq, rm, lr, gvn, size, len, pages, which, exA, exT, room, trn, cnt, kd, by_, fm, fs, fp, fd, ks, lb, ov) = some (rf, mem, reg', inp, im, rq, rm, lr, gvn, size, len, pages, which, exA, exT, room, trn, (upd cnt 0 (cnt 0 + 1)), (nI (kM b)), (nI (bytB b)), fm, fs, fp, fd, ks, lb, ov) ∧ GR f st' reg' ∧ BI st' ∧ BI reg' ∧ pcx b n a (reg' 9) := by
  have hkM : kM b = 5 := by rw [(t_kinds b hb).1, hk]; rfl
  have hB : bytB b = 1 := by unfold bytB; rw [hk]; decide
  obtain ⟨d, hde⟩ : ∃ d, b / 4 % 4 = d := ⟨_, rfl⟩
  obtain ⟨s, hse⟩ : ∃ s, b % 4 = s := ⟨_, rfl⟩
  have hd : d < 4 := by omega
  have hs : s < 4 := by omega
  have sd : st d = reg d := hG.1 d (by omega) (by omega) (by omega)
  have ss : st s = reg s := hG.1 s (by omega) (by omega) (by omega)
  have s4 : st 4 = reg 4 := hG.1 4 (by omega) (by omega) (by omega)
  have s9 : st 9 = nI a := (hG.1 9 (by omega) (by omega) (by omega)).trans h9
  obtain ⟨n', hn', en'⟩ := hMB ((a + 1) % 256)
  have hpc : (nI a + 1) &&& 255 = nI ((a + 1) % 256) := by rw [nI_1, and255 (by omega)]
  have hst := sp_5 (rf := rf) (inp := inp) (im := im) (rq := rq) (rm := rm) (lr := lr) (gvn := gvn) (size := size) (len := len) (pages := pages) (which := which) (exA := exA) (exT := exT) (room := room) (trn := trn) (cnt := cnt) (kd := kd) (by_ := by_) (fm := fm) (fs := fs) (fp := fp) (fd := fd) (ks := ks) (lb := lb) (ov := ov) ha hb hn' h9 hma en' hkM hB hde hse
  refine ⟨_, _, ?_, by rw [hkM, hB]; exact hst, (hG.up 9 (nI ((a + 1) % 256))).up 8 0, (hs1.up (i := 9) (x := (nI ((a + 1) % 256))) (isB_lit (Nat.mod_lt _ (by omega))) (by omega)).up8 (Or.inl rfl), (hr1.up (i := 9) (x := (nI ((a + 1) % 256))) (isB_lit (Nat.mod_lt _ (by omega))) (by omega)).up8 (Or.inl rfl), pcx_l (fun _ => by rw [hB, pk_un (by omega), pk_us]) (by omega)⟩
  rw [ex_5 hb hn hk hde hse, s9, hpc]
set_option maxRecDepth 20000 in
theorem sim_6 {mem reg inp rq gvn size len pages which exA exT cnt ks : Nat → Int32} {rf im rm lr room trn kd by_ fm fs fp fd lb ov : Int32} {f : Bool} {st outs : Nat → Int32} {iq : TQ} {gv wr : Int32} {a b n : Nat} (ha : a < 256) (hb : b < 256) (hn : n < 256) (hG : GR f st reg) (hs1 : BI st) (hr1 : BI reg) (h9 : reg 9 = nI a) (hma : mem a = nI b) (hMB : ∀ i, isB (mem i)) (h2 : bytB b = 2 → mem ((a + 1) % 256) = nI n) (hne : neeB b = true → f = true) (hk : kC b = 6) : ∃ st' reg' : Nat → Int32, fX2_execute (st, mem, iq, outs, gv, wr) (nI (wd b n false)) = some (st', mem, iq, outs, gv, wr) ∧ fX5_step (rf, mem, reg, inp, im, rq, rm, lr, gvn, size, len, pages, which, exA, exT, room, trn, cnt, kd, by_, fm, fs, fp, fd, ks, lb, ov) = some (rf, mem, reg', inp, im, rq, rm, lr, gvn, size, len, pages, which, exA, exT, room, trn, (upd cnt 0 (cnt 0 + 1)), (nI (kM b)), (nI (bytB b)), fm, fs, fp, fd, ks, lb, ov) ∧ GR f st' reg' ∧ BI st' ∧ BI reg' ∧ pcx b n a (reg' 9) := by
  have hkM : kM b = 6 := by rw [(t_kinds b hb).1, hk]; rfl
  have hB : bytB b = 1 := by unfold bytB; rw [hk]; decide
  obtain ⟨d, hde⟩ : ∃ d, b / 4 % 4 = d := ⟨_, rfl⟩
  obtain ⟨s, hse⟩ : ∃ s, b % 4 = s := ⟨_, rfl⟩
  have hd : d < 4 := by omega
  have hs : s < 4 := by omega
  have sd : st d = reg d := hG.1 d (by omega) (by omega) (by omega)
  have ss : st s = reg s := hG.1 s (by omega) (by omega) (by omega)
  have s4 : st 4 = reg 4 := hG.1 4 (by omega) (by omega) (by omega)
  have s9 : st 9 = nI a := (hG.1 9 (by omega) (by omega) (by omega)).trans h9
  obtain ⟨n', hn', en'⟩ := hMB ((a + 1) % 256)
  have hpc : (nI a + 1) &&& 255 = nI ((a + 1) % 256) := by rw [nI_1, and255 (by omega)]
  have hst := sp_6 (rf := rf) (inp := inp) (im := im) (rq := rq) (rm := rm) (lr := lr) (gvn := gvn) (size := size) (len := len) (pages := pages) (which := which) (exA := exA) (exT := exT) (room := room) (trn := trn) (cnt := cnt) (kd := kd) (by_ := by_) (fm := fm) (fs := fs) (fp := fp) (fd := fd) (ks := ks) (lb := lb) (ov := ov) ha hb hn' h9 hma en' hkM hB hde hse
  refine ⟨_, _, ?_, by rw [hkM, hB]; exact hst, (hG.up 9 (nI ((a + 1) % 256))).up d (reg s), (hs1.up (i := 9) (x := (nI ((a + 1) % 256))) (isB_lit (Nat.mod_lt _ (by omega))) (by omega)).up (i := d) (x := (reg s)) (hr1.1 s) (by omega), (hr1.up (i := 9) (x := (nI ((a + 1) % 256))) (isB_lit (Nat.mod_lt _ (by omega))) (by omega)).up (i := d) (x := (reg s)) (hr1.1 s) (by omega), pcx_l (fun _ => by rw [hB, pk_un (by omega), pk_us]) (by omega)⟩
  rw [ex_6 hb hn hk hde hse, s9, hpc, ss]
set_option maxRecDepth 20000 in
theorem sim_17 {mem reg inp rq gvn size len pages which exA exT cnt ks : Nat → Int32} {rf im rm lr room trn kd by_ fm fs fp fd lb ov : Int32} {f : Bool} {st outs : Nat → Int32} {iq : TQ} {gv wr : Int32} {a b n : Nat} (ha : a < 256) (hb : b < 256) (hn : n < 256) (hG : GR f st reg) (hs1 : BI st) (hr1 : BI reg) (h9 : reg 9 = nI a) (hma : mem a = nI b) (hMB : ∀ i, isB (mem i)) (h2 : bytB b = 2 → mem ((a + 1) % 256) = nI n) (hne : neeB b = true → f = true) (hk : kC b = 17) : ∃ st' reg' : Nat → Int32, fX2_execute (st, mem, iq, outs, gv, wr) (nI (wd b n false)) = some (st', mem, iq, outs, gv, wr) ∧ fX5_step (rf, mem, reg, inp, im, rq, rm, lr, gvn, size, len, pages, which, exA, exT, room, trn, cnt, kd, by_, fm, fs, fp, fd, ks, lb, ov) = some (rf, mem, reg', inp, im, rq, rm, lr, gvn, size, len, pages, which, exA, exT, room, trn, (upd cnt 0 (cnt 0 + 1)), (nI (kM b)), (nI (bytB b)), fm, fs, fp, fd, ks, lb, ov) ∧ GR f st' reg' ∧ BI st' ∧ BI reg' ∧ pcx b n a (reg' 9) := by
  have hkM : kM b = 17 := by rw [(t_kinds b hb).1, hk]; rfl
  have hB : bytB b = 2 := by unfold bytB; rw [hk]; decide
  obtain ⟨d, hde⟩ : ∃ d, b / 4 % 4 = d := ⟨_, rfl⟩
  obtain ⟨s, hse⟩ : ∃ s, b % 4 = s := ⟨_, rfl⟩
  have hd : d < 4 := by omega
  have hs : s < 4 := by omega
  have sd : st d = reg d := hG.1 d (by omega) (by omega) (by omega)
  have ss : st s = reg s := hG.1 s (by omega) (by omega) (by omega)
  have s4 : st 4 = reg 4 := hG.1 4 (by omega) (by omega) (by omega)
  have s9 : st 9 = nI a := (hG.1 9 (by omega) (by omega) (by omega)).trans h9
  have hpc : (nI a + 2) &&& 255 = nI ((a + 2) % 256) := by rw [show (2 : Int32) = nI 2 from rfl, nI_add, and255 (by omega)]
  have hst := sp_17 (rf := rf) (inp := inp) (im := im) (rq := rq) (rm := rm) (lr := lr) (gvn := gvn) (size := size) (len := len) (pages := pages) (which := which) (exA := exA) (exT := exT) (room := room) (trn := trn) (cnt := cnt) (kd := kd) (by_ := by_) (fm := fm) (fs := fs) (fp := fp) (fd := fd) (ks := ks) (lb := lb) (ov := ov) ha hb hn h9 hma (h2 hB) hkM hB hde hse
  rw [hpc] at hst
  refine ⟨_, _, ?_, by rw [hkM, hB]; exact hst, (hG.up 9 (nI ((a + 2) % 256))).up d (nI n), (hs1.up (i := 9) (x := (nI ((a + 2) % 256))) (isB_lit (Nat.mod_lt _ (by omega))) (by omega)).up (i := d) (x := (nI n)) (isB_lit hn) (by omega), (hr1.up (i := 9) (x := (nI ((a + 2) % 256))) (isB_lit (Nat.mod_lt _ (by omega))) (by omega)).up (i := d) (x := (nI n)) (isB_lit hn) (by omega), pcx_l (fun _ => by rw [hB, pk_un (by omega), pk_us]) (by omega)⟩
  rw [ex_17 hb hn hk hde hse, s9, hpc]
set_option maxRecDepth 20000 in
theorem sim_21 {mem reg inp rq gvn size len pages which exA exT cnt ks : Nat → Int32} {rf im rm lr room trn kd by_ fm fs fp fd lb ov : Int32} {f : Bool} {st outs : Nat → Int32} {iq : TQ} {gv wr : Int32} {a b n : Nat} (ha : a < 256) (hb : b < 256) (hn : n < 256) (hG : GR f st reg) (hs1 : BI st) (hr1 : BI reg) (h9 : reg 9 = nI a) (hma : mem a = nI b) (hMB : ∀ i, isB (mem i)) (h2 : bytB b = 2 → mem ((a + 1) % 256) = nI n) (hne : neeB b = true → f = true) (hk : kC b = 21) : ∃ st' reg' : Nat → Int32, fX2_execute (st, mem, iq, outs, gv, wr) (nI (wd b n false)) = some (st', mem, iq, outs, gv, wr) ∧ fX5_step (rf, mem, reg, inp, im, rq, rm, lr, gvn, size, len, pages, which, exA, exT, room, trn, cnt, kd, by_, fm, fs, fp, fd, ks, lb, ov) = some (rf, mem, reg', inp, im, rq, rm, lr, gvn, size, len, pages, which, exA, exT, room, trn, (upd cnt 0 (cnt 0 + 1)), (nI (kM b)), (nI (bytB b)), fm, fs, fp, fd, ks, lb, ov) ∧ GR f st' reg' ∧ BI st' ∧ BI reg' ∧ pcx b n a (reg' 9) := by
  have hkM : kM b = 21 := by rw [(t_kinds b hb).1, hk]; rfl
  have hB : bytB b = 2 := by unfold bytB; rw [hk]; decide
  obtain ⟨d, hde⟩ : ∃ d, b / 4 % 4 = d := ⟨_, rfl⟩
  obtain ⟨s, hse⟩ : ∃ s, b % 4 = s := ⟨_, rfl⟩
  have hd : d < 4 := by omega
  have hs : s < 4 := by omega
  have sd : st d = reg d := hG.1 d (by omega) (by omega) (by omega)
  have ss : st s = reg s := hG.1 s (by omega) (by omega) (by omega)
  have s4 : st 4 = reg 4 := hG.1 4 (by omega) (by omega) (by omega)
  have s9 : st 9 = nI a := (hG.1 9 (by omega) (by omega) (by omega)).trans h9
  have hpc : (nI a + 2) &&& 255 = nI ((a + 2) % 256) := by rw [show (2 : Int32) = nI 2 from rfl, nI_add, and255 (by omega)]
  obtain ⟨ad, had, hae⟩ := isB_and (reg s + nI n)
  have hst := sp_21 (rf := rf) (inp := inp) (im := im) (rq := rq) (rm := rm) (lr := lr) (gvn := gvn) (size := size) (len := len) (pages := pages) (which := which) (exA := exA) (exT := exT) (room := room) (trn := trn) (cnt := cnt) (kd := kd) (by_ := by_) (fm := fm) (fs := fs) (fp := fp) (fd := fd) (ks := ks) (lb := lb) (ov := ov) ha hb hn h9 hma (h2 hB) hkM hB hde hse had hae
  rw [hpc] at hst
  refine ⟨_, _, ?_, by rw [hkM, hB]; exact hst, (hG.up 9 (nI ((a + 2) % 256))).up d (mem ad), (hs1.up (i := 9) (x := (nI ((a + 2) % 256))) (isB_lit (Nat.mod_lt _ (by omega))) (by omega)).up (i := d) (x := (mem ad)) (hMB ad) (by omega), (hr1.up (i := 9) (x := (nI ((a + 2) % 256))) (isB_lit (Nat.mod_lt _ (by omega))) (by omega)).up (i := d) (x := (mem ad)) (hMB ad) (by omega), pcx_l (fun _ => by rw [hB, pk_un (by omega), pk_us]) (by omega)⟩
  rw [ex_21 hb hn hk hde hse had (by rw [ss]; exact hae), s9, hpc]
set_option maxRecDepth 20000 in
theorem sim_23 {mem reg inp rq gvn size len pages which exA exT cnt ks : Nat → Int32} {rf im rm lr room trn kd by_ fm fs fp fd lb ov : Int32} {f : Bool} {st outs : Nat → Int32} {iq : TQ} {gv wr : Int32} {a b n : Nat} (ha : a < 256) (hb : b < 256) (hn : n < 256) (hG : GR f st reg) (hs1 : BI st) (hr1 : BI reg) (h9 : reg 9 = nI a) (hma : mem a = nI b) (hMB : ∀ i, isB (mem i)) (h2 : bytB b = 2 → mem ((a + 1) % 256) = nI n) (hne : neeB b = true → f = true) (hk : kC b = 23) : ∃ st' reg' : Nat → Int32, fX2_execute (st, mem, iq, outs, gv, wr) (nI (wd b n false)) = some (st', mem, iq, outs, gv, wr) ∧ fX5_step (rf, mem, reg, inp, im, rq, rm, lr, gvn, size, len, pages, which, exA, exT, room, trn, cnt, kd, by_, fm, fs, fp, fd, ks, lb, ov) = some (rf, mem, reg', inp, im, rq, rm, lr, gvn, size, len, pages, which, exA, exT, room, trn, (upd cnt 0 (cnt 0 + 1)), (nI (kM b)), (nI (bytB b)), fm, fs, fp, fd, ks, lb, ov) ∧ GR f st' reg' ∧ BI st' ∧ BI reg' ∧ pcx b n a (reg' 9) := by
  have hkM : kM b = 23 := by rw [(t_kinds b hb).1, hk]; rfl
  have hB : bytB b = 2 := by unfold bytB; rw [hk]; decide
  obtain ⟨d, hde⟩ : ∃ d, b / 4 % 4 = d := ⟨_, rfl⟩
  obtain ⟨s, hse⟩ : ∃ s, b % 4 = s := ⟨_, rfl⟩
  have hd : d < 4 := by omega
  have hs : s < 4 := by omega
  have sd : st d = reg d := hG.1 d (by omega) (by omega) (by omega)
  have ss : st s = reg s := hG.1 s (by omega) (by omega) (by omega)
  have s4 : st 4 = reg 4 := hG.1 4 (by omega) (by omega) (by omega)
  have s9 : st 9 = nI a := (hG.1 9 (by omega) (by omega) (by omega)).trans h9
  have hpc : (nI a + 2) &&& 255 = nI ((a + 2) % 256) := by rw [show (2 : Int32) = nI 2 from rfl, nI_add, and255 (by omega)]
  have hw0 : b % 16 = 0 := (t_kinds b hb).2.2.1 hk
  have hst := sp_23_0 (rf := rf) (inp := inp) (im := im) (rq := rq) (rm := rm) (lr := lr) (gvn := gvn) (size := size) (len := len) (pages := pages) (which := which) (exA := exA) (exT := exT) (room := room) (trn := trn) (cnt := cnt) (kd := kd) (by_ := by_) (fm := fm) (fs := fs) (fp := fp) (fd := fd) (ks := ks) (lb := lb) (ov := ov) ha hb hn h9 hma (h2 hB) hkM hB hde hse hw0
  rw [hpc] at hst
  refine ⟨_, _, ?_, by rw [hkM, hB]; exact hst, (hG.up 9 (nI ((a + 2) % 256))).up 9 (nI n), (hs1.up (i := 9) (x := (nI ((a + 2) % 256))) (isB_lit (Nat.mod_lt _ (by omega))) (by omega)).up (i := 9) (x := (nI n)) (isB_lit hn) (by omega), (hr1.up (i := 9) (x := (nI ((a + 2) % 256))) (isB_lit (Nat.mod_lt _ (by omega))) (by omega)).up (i := 9) (x := (nI n)) (isB_lit hn) (by omega), ⟨fun z => absurd z (lea_t hk (by decide)), fun _ => pk_us, fun z => absurd z (by omega)⟩⟩
  rw [ex_23 hb hn hk hde hse, s9, hpc]
set_option maxRecDepth 20000 in
theorem sim_26 {mem reg inp rq gvn size len pages which exA exT cnt ks : Nat → Int32} {rf im rm lr room trn kd by_ fm fs fp fd lb ov : Int32} {f : Bool} {st outs : Nat → Int32} {iq : TQ} {gv wr : Int32} {a b n : Nat} (ha : a < 256) (hb : b < 256) (hn : n < 256) (hG : GR f st reg) (hs1 : BI st) (hr1 : BI reg) (h9 : reg 9 = nI a) (hma : mem a = nI b) (hMB : ∀ i, isB (mem i)) (h2 : bytB b = 2 → mem ((a + 1) % 256) = nI n) (hne : neeB b = true → f = true) (hk : kC b = 26) : ∃ st' reg' : Nat → Int32, fX2_execute (st, mem, iq, outs, gv, wr) (nI (wd b n false)) = some (st', mem, iq, outs, gv, wr) ∧ fX5_step (rf, mem, reg, inp, im, rq, rm, lr, gvn, size, len, pages, which, exA, exT, room, trn, cnt, kd, by_, fm, fs, fp, fd, ks, lb, ov) = some (rf, mem, reg', inp, im, rq, rm, lr, gvn, size, len, pages, which, exA, exT, room, trn, (upd cnt 0 (cnt 0 + 1)), (nI (kM b)), (nI (bytB b)), fm, fs, fp, fd, ks, lb, ov) ∧ GR f st' reg' ∧ BI st' ∧ BI reg' ∧ pcx b n a (reg' 9) := by
  have hkM : kM b = 25 := by rw [(t_kinds b hb).1, hk]; rfl
  have hB : bytB b = 1 := by unfold bytB; rw [hk]; decide
  obtain ⟨d, hde⟩ : ∃ d, b / 4 % 4 = d := ⟨_, rfl⟩
  obtain ⟨s, hse⟩ : ∃ s, b % 4 = s := ⟨_, rfl⟩
  have hd : d < 4 := by omega
  have hs : s < 4 := by omega
  have sd : st d = reg d := hG.1 d (by omega) (by omega) (by omega)
  have ss : st s = reg s := hG.1 s (by omega) (by omega) (by omega)
  have s4 : st 4 = reg 4 := hG.1 4 (by omega) (by omega) (by omega)
  have s9 : st 9 = nI a := (hG.1 9 (by omega) (by omega) (by omega)).trans h9
  obtain ⟨n', hn', en'⟩ := hMB ((a + 1) % 256)
  have hpc : (nI a + 1) &&& 255 = nI ((a + 1) % 256) := by rw [nI_1, and255 (by omega)]
  obtain ⟨sp, hsp, hspe⟩ := hr1.1 4
  have hst := sp_25 (rf := rf) (inp := inp) (im := im) (rq := rq) (rm := rm) (lr := lr) (gvn := gvn) (size := size) (len := len) (pages := pages) (which := which) (exA := exA) (exT := exT) (room := room) (trn := trn) (cnt := cnt) (kd := kd) (by_ := by_) (fm := fm) (fs := fs) (fp := fp) (fd := fd) (ks := ks) (lb := lb) (ov := ov) ha hb hn' h9 hma en' hkM hB hde hse hsp hspe
  refine ⟨_, _, ?_, by rw [hkM, hB]; exact hst, ((hG.up 9 (nI ((a + 1) % 256))).up 4 ((nI sp + 1) &&& 255)).up 9 (mem sp), ((hs1.up (i := 9) (x := (nI ((a + 1) % 256))) (isB_lit (Nat.mod_lt _ (by omega))) (by omega)).up (i := 4) (x := ((nI sp + 1) &&& 255)) (isB_and _) (by omega)).up (i := 9) (x := (mem sp)) (hMB sp) (by omega), ((hr1.up (i := 9) (x := (nI ((a + 1) % 256))) (isB_lit (Nat.mod_lt _ (by omega))) (by omega)).up (i := 4) (x := ((nI sp + 1) &&& 255)) (isB_and _) (by omega)).up (i := 9) (x := (mem sp)) (hMB sp) (by omega), ⟨fun z => absurd z (lea_t hk (by decide)), fun z => absurd z (by omega), fun z => absurd z (by omega)⟩⟩
  rw [ex_26 hb hn hk hde hse hsp (s4.trans hspe), s9, hpc]
set_option maxRecDepth 20000 in
theorem sim_28 {mem reg inp rq gvn size len pages which exA exT cnt ks : Nat → Int32} {rf im rm lr room trn kd by_ fm fs fp fd lb ov : Int32} {f : Bool} {st outs : Nat → Int32} {iq : TQ} {gv wr : Int32} {a b n : Nat} (ha : a < 256) (hb : b < 256) (hn : n < 256) (hG : GR f st reg) (hs1 : BI st) (hr1 : BI reg) (h9 : reg 9 = nI a) (hma : mem a = nI b) (hMB : ∀ i, isB (mem i)) (h2 : bytB b = 2 → mem ((a + 1) % 256) = nI n) (hne : neeB b = true → f = true) (hk : kC b = 28) : ∃ st' reg' : Nat → Int32, fX2_execute (st, mem, iq, outs, gv, wr) (nI (wd b n false)) = some (st', mem, iq, outs, gv, wr) ∧ fX5_step (rf, mem, reg, inp, im, rq, rm, lr, gvn, size, len, pages, which, exA, exT, room, trn, cnt, kd, by_, fm, fs, fp, fd, ks, lb, ov) = some (rf, mem, reg', inp, im, rq, rm, lr, gvn, size, len, pages, which, exA, exT, room, trn, (upd cnt 0 (cnt 0 + 1)), (nI (kM b)), (nI (bytB b)), fm, fs, fp, fd, ks, lb, ov) ∧ GR f st' reg' ∧ BI st' ∧ BI reg' ∧ pcx b n a (reg' 9) := by
  have hkM : kM b = 27 := by rw [(t_kinds b hb).1, hk]; rfl
  have hB : bytB b = 1 := by unfold bytB; rw [hk]; decide
  obtain ⟨d, hde⟩ : ∃ d, b / 4 % 4 = d := ⟨_, rfl⟩
  obtain ⟨s, hse⟩ : ∃ s, b % 4 = s := ⟨_, rfl⟩
  have hd : d < 4 := by omega
  have hs : s < 4 := by omega
  have sd : st d = reg d := hG.1 d (by omega) (by omega) (by omega)
  have ss : st s = reg s := hG.1 s (by omega) (by omega) (by omega)
  have s4 : st 4 = reg 4 := hG.1 4 (by omega) (by omega) (by omega)
  have s9 : st 9 = nI a := (hG.1 9 (by omega) (by omega) (by omega)).trans h9
  obtain ⟨n', hn', en'⟩ := hMB ((a + 1) % 256)
  have hpc : (nI a + 1) &&& 255 = nI ((a + 1) % 256) := by rw [nI_1, and255 (by omega)]
  obtain ⟨sp, hsp, hspe⟩ := hr1.1 4
  have hst := sp_27 (rf := rf) (inp := inp) (im := im) (rq := rq) (rm := rm) (lr := lr) (gvn := gvn) (size := size) (len := len) (pages := pages) (which := which) (exA := exA) (exT := exT) (room := room) (trn := trn) (cnt := cnt) (kd := kd) (by_ := by_) (fm := fm) (fs := fs) (fp := fp) (fd := fd) (ks := ks) (lb := lb) (ov := ov) ha hb hn' h9 hma en' hkM hB hde hse hsp hspe
  refine ⟨_, _, ?_, by rw [hkM, hB]; exact hst, ((hG.up 9 (nI ((a + 1) % 256))).up 4 ((nI sp + 1) &&& 255)).up d (mem sp), ((hs1.up (i := 9) (x := (nI ((a + 1) % 256))) (isB_lit (Nat.mod_lt _ (by omega))) (by omega)).up (i := 4) (x := ((nI sp + 1) &&& 255)) (isB_and _) (by omega)).up (i := d) (x := (mem sp)) (hMB sp) (by omega), ((hr1.up (i := 9) (x := (nI ((a + 1) % 256))) (isB_lit (Nat.mod_lt _ (by omega))) (by omega)).up (i := 4) (x := ((nI sp + 1) &&& 255)) (isB_and _) (by omega)).up (i := d) (x := (mem sp)) (hMB sp) (by omega), pcx_l (fun _ => by rw [hB, pk_un (by omega), pk_un (by omega), pk_us]) (by omega)⟩
  rw [ex_28 hb hn hk hde hse hsp (s4.trans hspe), s9, hpc]
set_option maxRecDepth 20000 in
theorem sim_29 {mem reg inp rq gvn size len pages which exA exT cnt ks : Nat → Int32} {rf im rm lr room trn kd by_ fm fs fp fd lb ov : Int32} {f : Bool} {st outs : Nat → Int32} {iq : TQ} {gv wr : Int32} {a b n : Nat} (ha : a < 256) (hb : b < 256) (hn : n < 256) (hG : GR f st reg) (hs1 : BI st) (hr1 : BI reg) (h9 : reg 9 = nI a) (hma : mem a = nI b) (hMB : ∀ i, isB (mem i)) (h2 : bytB b = 2 → mem ((a + 1) % 256) = nI n) (hne : neeB b = true → f = true) (hk : kC b = 29) : ∃ st' reg' : Nat → Int32, fX2_execute (st, mem, iq, outs, gv, wr) (nI (wd b n false)) = some (st', mem, iq, outs, gv, wr) ∧ fX5_step (rf, mem, reg, inp, im, rq, rm, lr, gvn, size, len, pages, which, exA, exT, room, trn, cnt, kd, by_, fm, fs, fp, fd, ks, lb, ov) = some (rf, mem, reg', inp, im, rq, rm, lr, gvn, size, len, pages, which, exA, exT, room, trn, (upd cnt 0 (cnt 0 + 1)), (nI (kM b)), (nI (bytB b)), fm, fs, fp, fd, ks, lb, ov) ∧ GR f st' reg' ∧ BI st' ∧ BI reg' ∧ pcx b n a (reg' 9) := by
  have hkM : kM b = 28 := by rw [(t_kinds b hb).1, hk]; rfl
  have hB : bytB b = 2 := by unfold bytB; rw [hk]; decide
  obtain ⟨d, hde⟩ : ∃ d, b / 4 % 4 = d := ⟨_, rfl⟩
  obtain ⟨s, hse⟩ : ∃ s, b % 4 = s := ⟨_, rfl⟩
  have hd : d < 4 := by omega
  have hs : s < 4 := by omega
  have sd : st d = reg d := hG.1 d (by omega) (by omega) (by omega)
  have ss : st s = reg s := hG.1 s (by omega) (by omega) (by omega)
  have s4 : st 4 = reg 4 := hG.1 4 (by omega) (by omega) (by omega)
  have s9 : st 9 = nI a := (hG.1 9 (by omega) (by omega) (by omega)).trans h9
  have hpc : (nI a + 2) &&& 255 = nI ((a + 2) % 256) := by rw [show (2 : Int32) = nI 2 from rfl, nI_add, and255 (by omega)]
  by_cases hz : (reg d - 1) &&& 255 = 0
  · have hst := sp_28f (rf := rf) (inp := inp) (im := im) (rq := rq) (rm := rm) (lr := lr) (gvn := gvn) (size := size) (len := len) (pages := pages) (which := which) (exA := exA) (exT := exT) (room := room) (trn := trn) (cnt := cnt) (kd := kd) (by_ := by_) (fm := fm) (fs := fs) (fp := fp) (fd := fd) (ks := ks) (lb := lb) (ov := ov) ha hb hn h9 hma (h2 hB) hkM hB hde hse hz
    rw [hpc] at hst
    rw [upd_9d hd] at hst
    refine ⟨_, _, ?_, by rw [hkM, hB]; exact hst, (hG.up 9 (nI ((a + 2) % 256))).up d ((reg d - 1) &&& 255), (hs1.up (i := 9) (x := (nI ((a + 2) % 256))) (isB_lit (Nat.mod_lt _ (by omega))) (by omega)).up (i := d) (x := ((reg d - 1) &&& 255)) (isB_and _) (by omega), (hr1.up (i := 9) (x := (nI ((a + 2) % 256))) (isB_lit (Nat.mod_lt _ (by omega))) (by omega)).up (i := d) (x := ((reg d - 1) &&& 255)) (isB_and _) (by omega), ⟨fun z => absurd z (lea_t hk (by decide)), fun z => absurd z (by omega), fun _ => Or.inr (by rw [pk_un (by omega), pk_us])⟩⟩
    rw [ex_29f hb hn hk hde hse (by rw [sd]; exact hz), s9, hpc, sd]
  · have hst := sp_28t (rf := rf) (inp := inp) (im := im) (rq := rq) (rm := rm) (lr := lr) (gvn := gvn) (size := size) (len := len) (pages := pages) (which := which) (exA := exA) (exT := exT) (room := room) (trn := trn) (cnt := cnt) (kd := kd) (by_ := by_) (fm := fm) (fs := fs) (fp := fp) (fd := fd) (ks := ks) (lb := lb) (ov := ov) ha hb hn h9 hma (h2 hB) hkM hB hde hse hz
    rw [hpc] at hst
    refine ⟨_, _, ?_, by rw [hkM, hB]; exact hst, ((hG.up 9 (nI ((a + 2) % 256))).up d ((reg d - 1) &&& 255)).up 9 (nI n), ((hs1.up (i := 9) (x := (nI ((a + 2) % 256))) (isB_lit (Nat.mod_lt _ (by omega))) (by omega)).up (i := d) (x := ((reg d - 1) &&& 255)) (isB_and _) (by omega)).up (i := 9) (x := (nI n)) (isB_lit hn) (by omega), ((hr1.up (i := 9) (x := (nI ((a + 2) % 256))) (isB_lit (Nat.mod_lt _ (by omega))) (by omega)).up (i := d) (x := ((reg d - 1) &&& 255)) (isB_and _) (by omega)).up (i := 9) (x := (nI n)) (isB_lit hn) (by omega), ⟨fun z => absurd z (lea_t hk (by decide)), fun z => absurd z (by omega), fun _ => Or.inl pk_us⟩⟩
    rw [ex_29t hb hn hk hde hse (by rw [sd]; exact hz), s9, hpc, sd]
set_option maxRecDepth 20000 in
theorem sim_24_1 {mem reg inp rq gvn size len pages which exA exT cnt ks : Nat → Int32} {rf im rm lr room trn kd by_ fm fs fp fd lb ov : Int32} {f : Bool} {st outs : Nat → Int32} {iq : TQ} {gv wr : Int32} {a b n : Nat} (ha : a < 256) (hb : b < 256) (hn : n < 256) (hG : GR f st reg) (hs1 : BI st) (hr1 : BI reg) (h9 : reg 9 = nI a) (hma : mem a = nI b) (hMB : ∀ i, isB (mem i)) (h2 : bytB b = 2 → mem ((a + 1) % 256) = nI n) (hne : neeB b = true → f = true) (hk : kC b = 24) (hwv : b % 16 = 1) : ∃ st' reg' : Nat → Int32, fX2_execute (st, mem, iq, outs, gv, wr) (nI (wd b n false)) = some (st', mem, iq, outs, gv, wr) ∧ fX5_step (rf, mem, reg, inp, im, rq, rm, lr, gvn, size, len, pages, which, exA, exT, room, trn, cnt, kd, by_, fm, fs, fp, fd, ks, lb, ov) = some (rf, mem, reg', inp, im, rq, rm, lr, gvn, size, len, pages, which, exA, exT, room, trn, (upd cnt 0 (cnt 0 + 1)), (nI (kM b)), (nI (bytB b)), fm, fs, fp, fd, ks, lb, ov) ∧ GR f st' reg' ∧ BI st' ∧ BI reg' ∧ pcx b n a (reg' 9) := by
  have hkM : kM b = 23 := by rw [(t_kinds b hb).1, hk]; rfl
  have hB : bytB b = 2 := by unfold bytB; rw [hk]; decide
  obtain ⟨d, hde⟩ : ∃ d, b / 4 % 4 = d := ⟨_, rfl⟩
  obtain ⟨s, hse⟩ : ∃ s, b % 4 = s := ⟨_, rfl⟩
  have hd : d < 4 := by omega
  have hs : s < 4 := by omega
  have sd : st d = reg d := hG.1 d (by omega) (by omega) (by omega)
  have ss : st s = reg s := hG.1 s (by omega) (by omega) (by omega)
  have s4 : st 4 = reg 4 := hG.1 4 (by omega) (by omega) (by omega)
  have s9 : st 9 = nI a := (hG.1 9 (by omega) (by omega) (by omega)).trans h9
  have hpc : (nI a + 2) &&& 255 = nI ((a + 2) % 256) := by rw [show (2 : Int32) = nI 2 from rfl, nI_add, and255 (by omega)]
  have hf : f = true := hne (by unfold neeB; rw [hk]; decide)
  have efl : st 5 = reg 5 := congrFun (hG.2 hf) 5
  by_cases hz : reg 5 = 1
  · have hst := sp_23_1t (rf := rf) (inp := inp) (im := im) (rq := rq) (rm := rm) (lr := lr) (gvn := gvn) (size := size) (len := len) (pages := pages) (which := which) (exA := exA) (exT := exT) (room := room) (trn := trn) (cnt := cnt) (kd := kd) (by_ := by_) (fm := fm) (fs := fs) (fp := fp) (fd := fd) (ks := ks) (lb := lb) (ov := ov) ha hb hn h9 hma (h2 hB) hkM hB hde hse hwv hz
    rw [hpc] at hst
    refine ⟨_, _, ?_, by rw [hkM, hB]; exact hst, (hG.up 9 (nI ((a + 2) % 256))).up 9 (nI n), (hs1.up (i := 9) (x := (nI ((a + 2) % 256))) (isB_lit (Nat.mod_lt _ (by omega))) (by omega)).up (i := 9) (x := (nI n)) (isB_lit hn) (by omega), (hr1.up (i := 9) (x := (nI ((a + 2) % 256))) (isB_lit (Nat.mod_lt _ (by omega))) (by omega)).up (i := 9) (x := (nI n)) (isB_lit hn) (by omega), ⟨fun z => absurd z (lea_t hk (by decide)), fun z => absurd z (by omega), fun _ => Or.inl pk_us⟩⟩
    rw [ex_24_1t hb hn hk hde hse hwv (by rw [efl]; exact hz), s9, hpc]
  · have hst := sp_23_1f (rf := rf) (inp := inp) (im := im) (rq := rq) (rm := rm) (lr := lr) (gvn := gvn) (size := size) (len := len) (pages := pages) (which := which) (exA := exA) (exT := exT) (room := room) (trn := trn) (cnt := cnt) (kd := kd) (by_ := by_) (fm := fm) (fs := fs) (fp := fp) (fd := fd) (ks := ks) (lb := lb) (ov := ov) ha hb hn h9 hma (h2 hB) hkM hB hde hse hwv hz
    rw [hpc] at hst
    rw [upd_same] at hst
    refine ⟨_, _, ?_, by rw [hkM, hB]; exact hst, hG.up 9 (nI ((a + 2) % 256)), hs1.up (i := 9) (x := (nI ((a + 2) % 256))) (isB_lit (Nat.mod_lt _ (by omega))) (by omega), hr1.up (i := 9) (x := (nI ((a + 2) % 256))) (isB_lit (Nat.mod_lt _ (by omega))) (by omega), ⟨fun z => absurd z (lea_t hk (by decide)), fun z => absurd z (by omega), fun _ => Or.inr (by rw [pk_us])⟩⟩
    rw [ex_24_1f hb hn hk hde hse hwv (by rw [efl]; exact hz), s9, hpc]
set_option maxRecDepth 20000 in
theorem sim_24_2 {mem reg inp rq gvn size len pages which exA exT cnt ks : Nat → Int32} {rf im rm lr room trn kd by_ fm fs fp fd lb ov : Int32} {f : Bool} {st outs : Nat → Int32} {iq : TQ} {gv wr : Int32} {a b n : Nat} (ha : a < 256) (hb : b < 256) (hn : n < 256) (hG : GR f st reg) (hs1 : BI st) (hr1 : BI reg) (h9 : reg 9 = nI a) (hma : mem a = nI b) (hMB : ∀ i, isB (mem i)) (h2 : bytB b = 2 → mem ((a + 1) % 256) = nI n) (hne : neeB b = true → f = true) (hk : kC b = 24) (hwv : b % 16 = 2) : ∃ st' reg' : Nat → Int32, fX2_execute (st, mem, iq, outs, gv, wr) (nI (wd b n false)) = some (st', mem, iq, outs, gv, wr) ∧ fX5_step (rf, mem, reg, inp, im, rq, rm, lr, gvn, size, len, pages, which, exA, exT, room, trn, cnt, kd, by_, fm, fs, fp, fd, ks, lb, ov) = some (rf, mem, reg', inp, im, rq, rm, lr, gvn, size, len, pages, which, exA, exT, room, trn, (upd cnt 0 (cnt 0 + 1)), (nI (kM b)), (nI (bytB b)), fm, fs, fp, fd, ks, lb, ov) ∧ GR f st' reg' ∧ BI st' ∧ BI reg' ∧ pcx b n a (reg' 9) := by
  have hkM : kM b = 23 := by rw [(t_kinds b hb).1, hk]; rfl
  have hB : bytB b = 2 := by unfold bytB; rw [hk]; decide
  obtain ⟨d, hde⟩ : ∃ d, b / 4 % 4 = d := ⟨_, rfl⟩
  obtain ⟨s, hse⟩ : ∃ s, b % 4 = s := ⟨_, rfl⟩
  have hd : d < 4 := by omega
  have hs : s < 4 := by omega
  have sd : st d = reg d := hG.1 d (by omega) (by omega) (by omega)
  have ss : st s = reg s := hG.1 s (by omega) (by omega) (by omega)
  have s4 : st 4 = reg 4 := hG.1 4 (by omega) (by omega) (by omega)
  have s9 : st 9 = nI a := (hG.1 9 (by omega) (by omega) (by omega)).trans h9
  have hpc : (nI a + 2) &&& 255 = nI ((a + 2) % 256) := by rw [show (2 : Int32) = nI 2 from rfl, nI_add, and255 (by omega)]
  have hf : f = true := hne (by unfold neeB; rw [hk]; decide)
  have efl : st 5 = reg 5 := congrFun (hG.2 hf) 5
  by_cases hz : reg 5 = 1
  · have hst := sp_23_2f (rf := rf) (inp := inp) (im := im) (rq := rq) (rm := rm) (lr := lr) (gvn := gvn) (size := size) (len := len) (pages := pages) (which := which) (exA := exA) (exT := exT) (room := room) (trn := trn) (cnt := cnt) (kd := kd) (by_ := by_) (fm := fm) (fs := fs) (fp := fp) (fd := fd) (ks := ks) (lb := lb) (ov := ov) ha hb hn h9 hma (h2 hB) hkM hB hde hse hwv hz
    rw [hpc] at hst
    rw [upd_same] at hst
    refine ⟨_, _, ?_, by rw [hkM, hB]; exact hst, hG.up 9 (nI ((a + 2) % 256)), hs1.up (i := 9) (x := (nI ((a + 2) % 256))) (isB_lit (Nat.mod_lt _ (by omega))) (by omega), hr1.up (i := 9) (x := (nI ((a + 2) % 256))) (isB_lit (Nat.mod_lt _ (by omega))) (by omega), ⟨fun z => absurd z (lea_t hk (by decide)), fun z => absurd z (by omega), fun _ => Or.inr (by rw [pk_us])⟩⟩
    rw [ex_24_2f hb hn hk hde hse hwv (by rw [efl, hz]; decide), s9, hpc]
  · have hst := sp_23_2t (rf := rf) (inp := inp) (im := im) (rq := rq) (rm := rm) (lr := lr) (gvn := gvn) (size := size) (len := len) (pages := pages) (which := which) (exA := exA) (exT := exT) (room := room) (trn := trn) (cnt := cnt) (kd := kd) (by_ := by_) (fm := fm) (fs := fs) (fp := fp) (fd := fd) (ks := ks) (lb := lb) (ov := ov) ha hb hn h9 hma (h2 hB) hkM hB hde hse hwv hz
    rw [hpc] at hst
    refine ⟨_, _, ?_, by rw [hkM, hB]; exact hst, (hG.up 9 (nI ((a + 2) % 256))).up 9 (nI n), (hs1.up (i := 9) (x := (nI ((a + 2) % 256))) (isB_lit (Nat.mod_lt _ (by omega))) (by omega)).up (i := 9) (x := (nI n)) (isB_lit hn) (by omega), (hr1.up (i := 9) (x := (nI ((a + 2) % 256))) (isB_lit (Nat.mod_lt _ (by omega))) (by omega)).up (i := 9) (x := (nI n)) (isB_lit hn) (by omega), ⟨fun z => absurd z (lea_t hk (by decide)), fun z => absurd z (by omega), fun _ => Or.inl pk_us⟩⟩
    rw [ex_24_2t hb hn hk hde hse hwv (by rw [efl]; rcases hr1.2.1 with h | h; exact h; exact absurd h hz), s9, hpc]
set_option maxRecDepth 20000 in
theorem sim_24_3 {mem reg inp rq gvn size len pages which exA exT cnt ks : Nat → Int32} {rf im rm lr room trn kd by_ fm fs fp fd lb ov : Int32} {f : Bool} {st outs : Nat → Int32} {iq : TQ} {gv wr : Int32} {a b n : Nat} (ha : a < 256) (hb : b < 256) (hn : n < 256) (hG : GR f st reg) (hs1 : BI st) (hr1 : BI reg) (h9 : reg 9 = nI a) (hma : mem a = nI b) (hMB : ∀ i, isB (mem i)) (h2 : bytB b = 2 → mem ((a + 1) % 256) = nI n) (hne : neeB b = true → f = true) (hk : kC b = 24) (hwv : b % 16 = 3) : ∃ st' reg' : Nat → Int32, fX2_execute (st, mem, iq, outs, gv, wr) (nI (wd b n false)) = some (st', mem, iq, outs, gv, wr) ∧ fX5_step (rf, mem, reg, inp, im, rq, rm, lr, gvn, size, len, pages, which, exA, exT, room, trn, cnt, kd, by_, fm, fs, fp, fd, ks, lb, ov) = some (rf, mem, reg', inp, im, rq, rm, lr, gvn, size, len, pages, which, exA, exT, room, trn, (upd cnt 0 (cnt 0 + 1)), (nI (kM b)), (nI (bytB b)), fm, fs, fp, fd, ks, lb, ov) ∧ GR f st' reg' ∧ BI st' ∧ BI reg' ∧ pcx b n a (reg' 9) := by
  have hkM : kM b = 23 := by rw [(t_kinds b hb).1, hk]; rfl
  have hB : bytB b = 2 := by unfold bytB; rw [hk]; decide
  obtain ⟨d, hde⟩ : ∃ d, b / 4 % 4 = d := ⟨_, rfl⟩
  obtain ⟨s, hse⟩ : ∃ s, b % 4 = s := ⟨_, rfl⟩
  have hd : d < 4 := by omega
  have hs : s < 4 := by omega
  have sd : st d = reg d := hG.1 d (by omega) (by omega) (by omega)
  have ss : st s = reg s := hG.1 s (by omega) (by omega) (by omega)
  have s4 : st 4 = reg 4 := hG.1 4 (by omega) (by omega) (by omega)
  have s9 : st 9 = nI a := (hG.1 9 (by omega) (by omega) (by omega)).trans h9
  have hpc : (nI a + 2) &&& 255 = nI ((a + 2) % 256) := by rw [show (2 : Int32) = nI 2 from rfl, nI_add, and255 (by omega)]
  have hf : f = true := hne (by unfold neeB; rw [hk]; decide)
  have efl : st 6 = reg 6 := congrFun (hG.2 hf) 6
  by_cases hz : reg 6 = 1
  · have hst := sp_23_3t (rf := rf) (inp := inp) (im := im) (rq := rq) (rm := rm) (lr := lr) (gvn := gvn) (size := size) (len := len) (pages := pages) (which := which) (exA := exA) (exT := exT) (room := room) (trn := trn) (cnt := cnt) (kd := kd) (by_ := by_) (fm := fm) (fs := fs) (fp := fp) (fd := fd) (ks := ks) (lb := lb) (ov := ov) ha hb hn h9 hma (h2 hB) hkM hB hde hse hwv hz
    rw [hpc] at hst
    refine ⟨_, _, ?_, by rw [hkM, hB]; exact hst, (hG.up 9 (nI ((a + 2) % 256))).up 9 (nI n), (hs1.up (i := 9) (x := (nI ((a + 2) % 256))) (isB_lit (Nat.mod_lt _ (by omega))) (by omega)).up (i := 9) (x := (nI n)) (isB_lit hn) (by omega), (hr1.up (i := 9) (x := (nI ((a + 2) % 256))) (isB_lit (Nat.mod_lt _ (by omega))) (by omega)).up (i := 9) (x := (nI n)) (isB_lit hn) (by omega), ⟨fun z => absurd z (lea_t hk (by decide)), fun z => absurd z (by omega), fun _ => Or.inl pk_us⟩⟩
    rw [ex_24_3t hb hn hk hde hse hwv (by rw [efl]; exact hz), s9, hpc]
  · have hst := sp_23_3f (rf := rf) (inp := inp) (im := im) (rq := rq) (rm := rm) (lr := lr) (gvn := gvn) (size := size) (len := len) (pages := pages) (which := which) (exA := exA) (exT := exT) (room := room) (trn := trn) (cnt := cnt) (kd := kd) (by_ := by_) (fm := fm) (fs := fs) (fp := fp) (fd := fd) (ks := ks) (lb := lb) (ov := ov) ha hb hn h9 hma (h2 hB) hkM hB hde hse hwv hz
    rw [hpc] at hst
    rw [upd_same] at hst
    refine ⟨_, _, ?_, by rw [hkM, hB]; exact hst, hG.up 9 (nI ((a + 2) % 256)), hs1.up (i := 9) (x := (nI ((a + 2) % 256))) (isB_lit (Nat.mod_lt _ (by omega))) (by omega), hr1.up (i := 9) (x := (nI ((a + 2) % 256))) (isB_lit (Nat.mod_lt _ (by omega))) (by omega), ⟨fun z => absurd z (lea_t hk (by decide)), fun z => absurd z (by omega), fun _ => Or.inr (by rw [pk_us])⟩⟩
    rw [ex_24_3f hb hn hk hde hse hwv (by rw [efl]; exact hz), s9, hpc]
set_option maxRecDepth 20000 in
theorem sim_24_4 {mem reg inp rq gvn size len pages which exA exT cnt ks : Nat → Int32} {rf im rm lr room trn kd by_ fm fs fp fd lb ov : Int32} {f : Bool} {st outs : Nat → Int32} {iq : TQ} {gv wr : Int32} {a b n : Nat} (ha : a < 256) (hb : b < 256) (hn : n < 256) (hG : GR f st reg) (hs1 : BI st) (hr1 : BI reg) (h9 : reg 9 = nI a) (hma : mem a = nI b) (hMB : ∀ i, isB (mem i)) (h2 : bytB b = 2 → mem ((a + 1) % 256) = nI n) (hne : neeB b = true → f = true) (hk : kC b = 24) (hwv : b % 16 = 4) : ∃ st' reg' : Nat → Int32, fX2_execute (st, mem, iq, outs, gv, wr) (nI (wd b n false)) = some (st', mem, iq, outs, gv, wr) ∧ fX5_step (rf, mem, reg, inp, im, rq, rm, lr, gvn, size, len, pages, which, exA, exT, room, trn, cnt, kd, by_, fm, fs, fp, fd, ks, lb, ov) = some (rf, mem, reg', inp, im, rq, rm, lr, gvn, size, len, pages, which, exA, exT, room, trn, (upd cnt 0 (cnt 0 + 1)), (nI (kM b)), (nI (bytB b)), fm, fs, fp, fd, ks, lb, ov) ∧ GR f st' reg' ∧ BI st' ∧ BI reg' ∧ pcx b n a (reg' 9) := by
  have hkM : kM b = 23 := by rw [(t_kinds b hb).1, hk]; rfl
  have hB : bytB b = 2 := by unfold bytB; rw [hk]; decide
  obtain ⟨d, hde⟩ : ∃ d, b / 4 % 4 = d := ⟨_, rfl⟩
  obtain ⟨s, hse⟩ : ∃ s, b % 4 = s := ⟨_, rfl⟩
  have hd : d < 4 := by omega
  have hs : s < 4 := by omega
  have sd : st d = reg d := hG.1 d (by omega) (by omega) (by omega)
  have ss : st s = reg s := hG.1 s (by omega) (by omega) (by omega)
  have s4 : st 4 = reg 4 := hG.1 4 (by omega) (by omega) (by omega)
  have s9 : st 9 = nI a := (hG.1 9 (by omega) (by omega) (by omega)).trans h9
  have hpc : (nI a + 2) &&& 255 = nI ((a + 2) % 256) := by rw [show (2 : Int32) = nI 2 from rfl, nI_add, and255 (by omega)]
  have hf : f = true := hne (by unfold neeB; rw [hk]; decide)
  have efl : st 6 = reg 6 := congrFun (hG.2 hf) 6
  by_cases hz : reg 6 = 1
  · have hst := sp_23_4f (rf := rf) (inp := inp) (im := im) (rq := rq) (rm := rm) (lr := lr) (gvn := gvn) (size := size) (len := len) (pages := pages) (which := which) (exA := exA) (exT := exT) (room := room) (trn := trn) (cnt := cnt) (kd := kd) (by_ := by_) (fm := fm) (fs := fs) (fp := fp) (fd := fd) (ks := ks) (lb := lb) (ov := ov) ha hb hn h9 hma (h2 hB) hkM hB hde hse hwv hz
    rw [hpc] at hst
    rw [upd_same] at hst
    refine ⟨_, _, ?_, by rw [hkM, hB]; exact hst, hG.up 9 (nI ((a + 2) % 256)), hs1.up (i := 9) (x := (nI ((a + 2) % 256))) (isB_lit (Nat.mod_lt _ (by omega))) (by omega), hr1.up (i := 9) (x := (nI ((a + 2) % 256))) (isB_lit (Nat.mod_lt _ (by omega))) (by omega), ⟨fun z => absurd z (lea_t hk (by decide)), fun z => absurd z (by omega), fun _ => Or.inr (by rw [pk_us])⟩⟩
    rw [ex_24_4f hb hn hk hde hse hwv (by rw [efl, hz]; decide), s9, hpc]
  · have hst := sp_23_4t (rf := rf) (inp := inp) (im := im) (rq := rq) (rm := rm) (lr := lr) (gvn := gvn) (size := size) (len := len) (pages := pages) (which := which) (exA := exA) (exT := exT) (room := room) (trn := trn) (cnt := cnt) (kd := kd) (by_ := by_) (fm := fm) (fs := fs) (fp := fp) (fd := fd) (ks := ks) (lb := lb) (ov := ov) ha hb hn h9 hma (h2 hB) hkM hB hde hse hwv hz
    rw [hpc] at hst
    refine ⟨_, _, ?_, by rw [hkM, hB]; exact hst, (hG.up 9 (nI ((a + 2) % 256))).up 9 (nI n), (hs1.up (i := 9) (x := (nI ((a + 2) % 256))) (isB_lit (Nat.mod_lt _ (by omega))) (by omega)).up (i := 9) (x := (nI n)) (isB_lit hn) (by omega), (hr1.up (i := 9) (x := (nI ((a + 2) % 256))) (isB_lit (Nat.mod_lt _ (by omega))) (by omega)).up (i := 9) (x := (nI n)) (isB_lit hn) (by omega), ⟨fun z => absurd z (lea_t hk (by decide)), fun z => absurd z (by omega), fun _ => Or.inl pk_us⟩⟩
    rw [ex_24_4t hb hn hk hde hse hwv (by rw [efl]; rcases hr1.2.2.1 with h | h; exact h; exact absurd h hz), s9, hpc]
set_option maxRecDepth 20000 in
theorem sim_24_5 {mem reg inp rq gvn size len pages which exA exT cnt ks : Nat → Int32} {rf im rm lr room trn kd by_ fm fs fp fd lb ov : Int32} {f : Bool} {st outs : Nat → Int32} {iq : TQ} {gv wr : Int32} {a b n : Nat} (ha : a < 256) (hb : b < 256) (hn : n < 256) (hG : GR f st reg) (hs1 : BI st) (hr1 : BI reg) (h9 : reg 9 = nI a) (hma : mem a = nI b) (hMB : ∀ i, isB (mem i)) (h2 : bytB b = 2 → mem ((a + 1) % 256) = nI n) (hne : neeB b = true → f = true) (hk : kC b = 24) (hwv : b % 16 = 5) : ∃ st' reg' : Nat → Int32, fX2_execute (st, mem, iq, outs, gv, wr) (nI (wd b n false)) = some (st', mem, iq, outs, gv, wr) ∧ fX5_step (rf, mem, reg, inp, im, rq, rm, lr, gvn, size, len, pages, which, exA, exT, room, trn, cnt, kd, by_, fm, fs, fp, fd, ks, lb, ov) = some (rf, mem, reg', inp, im, rq, rm, lr, gvn, size, len, pages, which, exA, exT, room, trn, (upd cnt 0 (cnt 0 + 1)), (nI (kM b)), (nI (bytB b)), fm, fs, fp, fd, ks, lb, ov) ∧ GR f st' reg' ∧ BI st' ∧ BI reg' ∧ pcx b n a (reg' 9) := by
  have hkM : kM b = 23 := by rw [(t_kinds b hb).1, hk]; rfl
  have hB : bytB b = 2 := by unfold bytB; rw [hk]; decide
  obtain ⟨d, hde⟩ : ∃ d, b / 4 % 4 = d := ⟨_, rfl⟩
  obtain ⟨s, hse⟩ : ∃ s, b % 4 = s := ⟨_, rfl⟩
  have hd : d < 4 := by omega
  have hs : s < 4 := by omega
  have sd : st d = reg d := hG.1 d (by omega) (by omega) (by omega)
  have ss : st s = reg s := hG.1 s (by omega) (by omega) (by omega)
  have s4 : st 4 = reg 4 := hG.1 4 (by omega) (by omega) (by omega)
  have s9 : st 9 = nI a := (hG.1 9 (by omega) (by omega) (by omega)).trans h9
  have hpc : (nI a + 2) &&& 255 = nI ((a + 2) % 256) := by rw [show (2 : Int32) = nI 2 from rfl, nI_add, and255 (by omega)]
  have hf : f = true := hne (by unfold neeB; rw [hk]; decide)
  have efl : st 7 = reg 7 := congrFun (hG.2 hf) 7
  by_cases hz : reg 7 = 1
  · have hst := sp_23_5t (rf := rf) (inp := inp) (im := im) (rq := rq) (rm := rm) (lr := lr) (gvn := gvn) (size := size) (len := len) (pages := pages) (which := which) (exA := exA) (exT := exT) (room := room) (trn := trn) (cnt := cnt) (kd := kd) (by_ := by_) (fm := fm) (fs := fs) (fp := fp) (fd := fd) (ks := ks) (lb := lb) (ov := ov) ha hb hn h9 hma (h2 hB) hkM hB hde hse hwv hz
    rw [hpc] at hst
    refine ⟨_, _, ?_, by rw [hkM, hB]; exact hst, (hG.up 9 (nI ((a + 2) % 256))).up 9 (nI n), (hs1.up (i := 9) (x := (nI ((a + 2) % 256))) (isB_lit (Nat.mod_lt _ (by omega))) (by omega)).up (i := 9) (x := (nI n)) (isB_lit hn) (by omega), (hr1.up (i := 9) (x := (nI ((a + 2) % 256))) (isB_lit (Nat.mod_lt _ (by omega))) (by omega)).up (i := 9) (x := (nI n)) (isB_lit hn) (by omega), ⟨fun z => absurd z (lea_t hk (by decide)), fun z => absurd z (by omega), fun _ => Or.inl pk_us⟩⟩
    rw [ex_24_5t hb hn hk hde hse hwv (by rw [efl]; exact hz), s9, hpc]
  · have hst := sp_23_5f (rf := rf) (inp := inp) (im := im) (rq := rq) (rm := rm) (lr := lr) (gvn := gvn) (size := size) (len := len) (pages := pages) (which := which) (exA := exA) (exT := exT) (room := room) (trn := trn) (cnt := cnt) (kd := kd) (by_ := by_) (fm := fm) (fs := fs) (fp := fp) (fd := fd) (ks := ks) (lb := lb) (ov := ov) ha hb hn h9 hma (h2 hB) hkM hB hde hse hwv hz
    rw [hpc] at hst
    rw [upd_same] at hst
    refine ⟨_, _, ?_, by rw [hkM, hB]; exact hst, hG.up 9 (nI ((a + 2) % 256)), hs1.up (i := 9) (x := (nI ((a + 2) % 256))) (isB_lit (Nat.mod_lt _ (by omega))) (by omega), hr1.up (i := 9) (x := (nI ((a + 2) % 256))) (isB_lit (Nat.mod_lt _ (by omega))) (by omega), ⟨fun z => absurd z (lea_t hk (by decide)), fun z => absurd z (by omega), fun _ => Or.inr (by rw [pk_us])⟩⟩
    rw [ex_24_5f hb hn hk hde hse hwv (by rw [efl]; exact hz), s9, hpc]
set_option maxRecDepth 20000 in
theorem sim_24_6 {mem reg inp rq gvn size len pages which exA exT cnt ks : Nat → Int32} {rf im rm lr room trn kd by_ fm fs fp fd lb ov : Int32} {f : Bool} {st outs : Nat → Int32} {iq : TQ} {gv wr : Int32} {a b n : Nat} (ha : a < 256) (hb : b < 256) (hn : n < 256) (hG : GR f st reg) (hs1 : BI st) (hr1 : BI reg) (h9 : reg 9 = nI a) (hma : mem a = nI b) (hMB : ∀ i, isB (mem i)) (h2 : bytB b = 2 → mem ((a + 1) % 256) = nI n) (hne : neeB b = true → f = true) (hk : kC b = 24) (hwv : b % 16 = 6) : ∃ st' reg' : Nat → Int32, fX2_execute (st, mem, iq, outs, gv, wr) (nI (wd b n false)) = some (st', mem, iq, outs, gv, wr) ∧ fX5_step (rf, mem, reg, inp, im, rq, rm, lr, gvn, size, len, pages, which, exA, exT, room, trn, cnt, kd, by_, fm, fs, fp, fd, ks, lb, ov) = some (rf, mem, reg', inp, im, rq, rm, lr, gvn, size, len, pages, which, exA, exT, room, trn, (upd cnt 0 (cnt 0 + 1)), (nI (kM b)), (nI (bytB b)), fm, fs, fp, fd, ks, lb, ov) ∧ GR f st' reg' ∧ BI st' ∧ BI reg' ∧ pcx b n a (reg' 9) := by
  have hkM : kM b = 23 := by rw [(t_kinds b hb).1, hk]; rfl
  have hB : bytB b = 2 := by unfold bytB; rw [hk]; decide
  obtain ⟨d, hde⟩ : ∃ d, b / 4 % 4 = d := ⟨_, rfl⟩
  obtain ⟨s, hse⟩ : ∃ s, b % 4 = s := ⟨_, rfl⟩
  have hd : d < 4 := by omega
  have hs : s < 4 := by omega
  have sd : st d = reg d := hG.1 d (by omega) (by omega) (by omega)
  have ss : st s = reg s := hG.1 s (by omega) (by omega) (by omega)
  have s4 : st 4 = reg 4 := hG.1 4 (by omega) (by omega) (by omega)
  have s9 : st 9 = nI a := (hG.1 9 (by omega) (by omega) (by omega)).trans h9
  have hpc : (nI a + 2) &&& 255 = nI ((a + 2) % 256) := by rw [show (2 : Int32) = nI 2 from rfl, nI_add, and255 (by omega)]
  have hf : f = true := hne (by unfold neeB; rw [hk]; decide)
  have efl : st 7 = reg 7 := congrFun (hG.2 hf) 7
  by_cases hz : reg 7 = 1
  · have hst := sp_23_6f (rf := rf) (inp := inp) (im := im) (rq := rq) (rm := rm) (lr := lr) (gvn := gvn) (size := size) (len := len) (pages := pages) (which := which) (exA := exA) (exT := exT) (room := room) (trn := trn) (cnt := cnt) (kd := kd) (by_ := by_) (fm := fm) (fs := fs) (fp := fp) (fd := fd) (ks := ks) (lb := lb) (ov := ov) ha hb hn h9 hma (h2 hB) hkM hB hde hse hwv hz
    rw [hpc] at hst
    rw [upd_same] at hst
    refine ⟨_, _, ?_, by rw [hkM, hB]; exact hst, hG.up 9 (nI ((a + 2) % 256)), hs1.up (i := 9) (x := (nI ((a + 2) % 256))) (isB_lit (Nat.mod_lt _ (by omega))) (by omega), hr1.up (i := 9) (x := (nI ((a + 2) % 256))) (isB_lit (Nat.mod_lt _ (by omega))) (by omega), ⟨fun z => absurd z (lea_t hk (by decide)), fun z => absurd z (by omega), fun _ => Or.inr (by rw [pk_us])⟩⟩
    rw [ex_24_6f hb hn hk hde hse hwv (by rw [efl, hz]; decide), s9, hpc]
  · have hst := sp_23_6t (rf := rf) (inp := inp) (im := im) (rq := rq) (rm := rm) (lr := lr) (gvn := gvn) (size := size) (len := len) (pages := pages) (which := which) (exA := exA) (exT := exT) (room := room) (trn := trn) (cnt := cnt) (kd := kd) (by_ := by_) (fm := fm) (fs := fs) (fp := fp) (fd := fd) (ks := ks) (lb := lb) (ov := ov) ha hb hn h9 hma (h2 hB) hkM hB hde hse hwv hz
    rw [hpc] at hst
    refine ⟨_, _, ?_, by rw [hkM, hB]; exact hst, (hG.up 9 (nI ((a + 2) % 256))).up 9 (nI n), (hs1.up (i := 9) (x := (nI ((a + 2) % 256))) (isB_lit (Nat.mod_lt _ (by omega))) (by omega)).up (i := 9) (x := (nI n)) (isB_lit hn) (by omega), (hr1.up (i := 9) (x := (nI ((a + 2) % 256))) (isB_lit (Nat.mod_lt _ (by omega))) (by omega)).up (i := 9) (x := (nI n)) (isB_lit hn) (by omega), ⟨fun z => absurd z (lea_t hk (by decide)), fun z => absurd z (by omega), fun _ => Or.inl pk_us⟩⟩
    rw [ex_24_6t hb hn hk hde hse hwv (by rw [efl]; rcases hr1.2.2.2.1 with h | h; exact h; exact absurd h hz), s9, hpc]

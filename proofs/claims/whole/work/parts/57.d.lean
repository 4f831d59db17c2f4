set_option maxRecDepth 20000 in
theorem perf_7 {mem reg inp rq gvn size len pages which exA exT cnt ks : Nat → Int32} {rf im rm lr room trn kd by_ fm fs fp fd lb ov : Int32} {st outs code lenC beh siz ser exP lnk : Nat → Int32} {iq rqq : TQ} {gv limit blocks filled trl fls dead lrq exe inv lku itp itr en ext : Int32} {f dd : Bool} {e T a b n : Nat} {ls : Nat → List (Nat × Nat)} (h : RS f e T ls ((st, mem, iq, outs, gv, (-1)), (code, lenC, beh, siz, ser, exP, lnk, limit, blocks, filled, trl, fls, dead), rqq, lrq, exe, inv, lku, itp, itr, en, ext) (rf, mem, reg, inp, im, rq, rm, lr, gvn, size, len, pages, which, exA, exT, room, trn, cnt, kd, by_, fm, fs, fp, fd, ks, lb, ov)) (he : e < 2 ^ 30) (ha : a < 256) (hb : b < 256) (hn : n < 256) (h9 : reg 9 = nI a) (hma : mem a = nI b) (h2 : bytB b = 2 → mem ((a + 1) % 256) = nI n) (hne : neeB b = true → f = true) (hk : kC b = 7) : ∃ B' M', fX4_perform ((st, mem, iq, outs, gv, (-1)), (code, lenC, beh, siz, ser, exP, lnk, limit, blocks, filled, trl, fls, dead), rqq, lrq, exe, inv, lku, itp, itr, en, ext) (nI (wd b n dd)) = some B' ∧ fX5_step (rf, mem, reg, inp, im, rq, rm, lr, gvn, size, len, pages, which, exA, exT, room, trn, cnt, kd, by_, fm, fs, fp, fd, ks, lb, ov) = some M' ∧ PF (!dd) e T ls b n a ((st, mem, iq, outs, gv, (-1)), (code, lenC, beh, siz, ser, exP, lnk, limit, blocks, filled, trl, fls, dead), rqq, lrq, exe, inv, lku, itp, itr, en, ext) (rf, mem, reg, inp, im, rq, rm, lr, gvn, size, len, pages, which, exA, exT, room, trn, cnt, kd, by_, fm, fs, fp, fd, ks, lb, ov) B' M' := by
  have hG : GR f st reg := h.g
  have hs1 : BI st := h.bs
  have hr1 : BI reg := h.br
  have hMB : ∀ i, isB (mem i) := h.mb
  have c10 : cnt 10 = gv := h.c10
  obtain ⟨gn, hgn, hgv⟩ := h.gv
  have hgv : gv = nI gn := hgv
  obtain ⟨st', reg', x1, x2, x3, x4, x5, x6⟩ := sim_7 (rf := rf) (inp := inp) (im := im) (rq := rq) (rm := rm) (lr := lr) (gvn := gvn) (size := size) (len := len) (pages := pages) (which := which) (exA := exA) (exT := exT) (room := room) (trn := trn) (cnt := cnt) (kd := kd) (by_ := by_) (fm := fm) (fs := fs) (fp := fp) (fd := fd) (ks := ks) (lb := lb) (ov := ov) (dd := dd) (iq := iq) (outs := outs) (gv := gv) (wr := -1) ha hb hn hG hs1 hr1 h9 hma hMB h2 hne hk
  exact perf_nw h hb hn x1 x2 x3 x4 x5 x6 h.q h.qb h.o ⟨gn, by omega, hgv⟩ pk_us ((pk_un (by omega)).trans c10) ((pk_un (by omega)).trans (if_neg (by omega)).symm) (fun i i0 _ _ => pk_un i0) (if_neg (by omega)).symm
set_option maxRecDepth 20000 in
theorem perf_8 {mem reg inp rq gvn size len pages which exA exT cnt ks : Nat → Int32} {rf im rm lr room trn kd by_ fm fs fp fd lb ov : Int32} {st outs code lenC beh siz ser exP lnk : Nat → Int32} {iq rqq : TQ} {gv limit blocks filled trl fls dead lrq exe inv lku itp itr en ext : Int32} {f dd : Bool} {e T a b n : Nat} {ls : Nat → List (Nat × Nat)} (h : RS f e T ls ((st, mem, iq, outs, gv, (-1)), (code, lenC, beh, siz, ser, exP, lnk, limit, blocks, filled, trl, fls, dead), rqq, lrq, exe, inv, lku, itp, itr, en, ext) (rf, mem, reg, inp, im, rq, rm, lr, gvn, size, len, pages, which, exA, exT, room, trn, cnt, kd, by_, fm, fs, fp, fd, ks, lb, ov)) (he : e < 2 ^ 30) (ha : a < 256) (hb : b < 256) (hn : n < 256) (h9 : reg 9 = nI a) (hma : mem a = nI b) (h2 : bytB b = 2 → mem ((a + 1) % 256) = nI n) (hne : neeB b = true → f = true) (hk : kC b = 8) : ∃ B' M', fX4_perform ((st, mem, iq, outs, gv, (-1)), (code, lenC, beh, siz, ser, exP, lnk, limit, blocks, filled, trl, fls, dead), rqq, lrq, exe, inv, lku, itp, itr, en, ext) (nI (wd b n dd)) = some B' ∧ fX5_step (rf, mem, reg, inp, im, rq, rm, lr, gvn, size, len, pages, which, exA, exT, room, trn, cnt, kd, by_, fm, fs, fp, fd, ks, lb, ov) = some M' ∧ PF (!dd) e T ls b n a ((st, mem, iq, outs, gv, (-1)), (code, lenC, beh, siz, ser, exP, lnk, limit, blocks, filled, trl, fls, dead), rqq, lrq, exe, inv, lku, itp, itr, en, ext) (rf, mem, reg, inp, im, rq, rm, lr, gvn, size, len, pages, which, exA, exT, room, trn, cnt, kd, by_, fm, fs, fp, fd, ks, lb, ov) B' M' := by
  have hG : GR f st reg := h.g
  have hs1 : BI st := h.bs
  have hr1 : BI reg := h.br
  have hMB : ∀ i, isB (mem i) := h.mb
  have c10 : cnt 10 = gv := h.c10
  obtain ⟨gn, hgn, hgv⟩ := h.gv
  have hgv : gv = nI gn := hgv
  obtain ⟨st', reg', x1, x2, x3, x4, x5, x6⟩ := sim_8 (rf := rf) (inp := inp) (im := im) (rq := rq) (rm := rm) (lr := lr) (gvn := gvn) (size := size) (len := len) (pages := pages) (which := which) (exA := exA) (exT := exT) (room := room) (trn := trn) (cnt := cnt) (kd := kd) (by_ := by_) (fm := fm) (fs := fs) (fp := fp) (fd := fd) (ks := ks) (lb := lb) (ov := ov) (dd := dd) (iq := iq) (outs := outs) (gv := gv) (wr := -1) ha hb hn hG hs1 hr1 h9 hma hMB h2 hne hk
  exact perf_nw h hb hn x1 x2 x3 x4 x5 x6 h.q h.qb h.o ⟨gn, by omega, hgv⟩ pk_us ((pk_un (by omega)).trans c10) ((pk_un (by omega)).trans (if_neg (by omega)).symm) (fun i i0 _ _ => pk_un i0) (if_neg (by omega)).symm
set_option maxRecDepth 20000 in
theorem perf_9 {mem reg inp rq gvn size len pages which exA exT cnt ks : Nat → Int32} {rf im rm lr room trn kd by_ fm fs fp fd lb ov : Int32} {st outs code lenC beh siz ser exP lnk : Nat → Int32} {iq rqq : TQ} {gv limit blocks filled trl fls dead lrq exe inv lku itp itr en ext : Int32} {f dd : Bool} {e T a b n : Nat} {ls : Nat → List (Nat × Nat)} (h : RS f e T ls ((st, mem, iq, outs, gv, (-1)), (code, lenC, beh, siz, ser, exP, lnk, limit, blocks, filled, trl, fls, dead), rqq, lrq, exe, inv, lku, itp, itr, en, ext) (rf, mem, reg, inp, im, rq, rm, lr, gvn, size, len, pages, which, exA, exT, room, trn, cnt, kd, by_, fm, fs, fp, fd, ks, lb, ov)) (he : e < 2 ^ 30) (ha : a < 256) (hb : b < 256) (hn : n < 256) (h9 : reg 9 = nI a) (hma : mem a = nI b) (h2 : bytB b = 2 → mem ((a + 1) % 256) = nI n) (hne : neeB b = true → f = true) (hk : kC b = 9) : ∃ B' M', fX4_perform ((st, mem, iq, outs, gv, (-1)), (code, lenC, beh, siz, ser, exP, lnk, limit, blocks, filled, trl, fls, dead), rqq, lrq, exe, inv, lku, itp, itr, en, ext) (nI (wd b n dd)) = some B' ∧ fX5_step (rf, mem, reg, inp, im, rq, rm, lr, gvn, size, len, pages, which, exA, exT, room, trn, cnt, kd, by_, fm, fs, fp, fd, ks, lb, ov) = some M' ∧ PF (!dd) e T ls b n a ((st, mem, iq, outs, gv, (-1)), (code, lenC, beh, siz, ser, exP, lnk, limit, blocks, filled, trl, fls, dead), rqq, lrq, exe, inv, lku, itp, itr, en, ext) (rf, mem, reg, inp, im, rq, rm, lr, gvn, size, len, pages, which, exA, exT, room, trn, cnt, kd, by_, fm, fs, fp, fd, ks, lb, ov) B' M' := by
  have hG : GR f st reg := h.g
  have hs1 : BI st := h.bs
  have hr1 : BI reg := h.br
  have hMB : ∀ i, isB (mem i) := h.mb
  have c10 : cnt 10 = gv := h.c10
  obtain ⟨gn, hgn, hgv⟩ := h.gv
  have hgv : gv = nI gn := hgv
  obtain ⟨st', reg', x1, x2, x3, x4, x5, x6⟩ := sim_9 (rf := rf) (inp := inp) (im := im) (rq := rq) (rm := rm) (lr := lr) (gvn := gvn) (size := size) (len := len) (pages := pages) (which := which) (exA := exA) (exT := exT) (room := room) (trn := trn) (cnt := cnt) (kd := kd) (by_ := by_) (fm := fm) (fs := fs) (fp := fp) (fd := fd) (ks := ks) (lb := lb) (ov := ov) (dd := dd) (iq := iq) (outs := outs) (gv := gv) (wr := -1) ha hb hn hG hs1 hr1 h9 hma hMB h2 hne hk
  exact perf_nw h hb hn x1 x2 x3 x4 x5 x6 h.q h.qb h.o ⟨gn, by omega, hgv⟩ pk_us ((pk_un (by omega)).trans c10) ((pk_un (by omega)).trans (if_neg (by omega)).symm) (fun i i0 _ _ => pk_un i0) (if_neg (by omega)).symm
set_option maxRecDepth 20000 in
theorem perf_10 {mem reg inp rq gvn size len pages which exA exT cnt ks : Nat → Int32} {rf im rm lr room trn kd by_ fm fs fp fd lb ov : Int32} {st outs code lenC beh siz ser exP lnk : Nat → Int32} {iq rqq : TQ} {gv limit blocks filled trl fls dead lrq exe inv lku itp itr en ext : Int32} {f dd : Bool} {e T a b n : Nat} {ls : Nat → List (Nat × Nat)} (h : RS f e T ls ((st, mem, iq, outs, gv, (-1)), (code, lenC, beh, siz, ser, exP, lnk, limit, blocks, filled, trl, fls, dead), rqq, lrq, exe, inv, lku, itp, itr, en, ext) (rf, mem, reg, inp, im, rq, rm, lr, gvn, size, len, pages, which, exA, exT, room, trn, cnt, kd, by_, fm, fs, fp, fd, ks, lb, ov)) (he : e < 2 ^ 30) (ha : a < 256) (hb : b < 256) (hn : n < 256) (h9 : reg 9 = nI a) (hma : mem a = nI b) (h2 : bytB b = 2 → mem ((a + 1) % 256) = nI n) (hne : neeB b = true → f = true) (hk : kC b = 10) : ∃ B' M', fX4_perform ((st, mem, iq, outs, gv, (-1)), (code, lenC, beh, siz, ser, exP, lnk, limit, blocks, filled, trl, fls, dead), rqq, lrq, exe, inv, lku, itp, itr, en, ext) (nI (wd b n dd)) = some B' ∧ fX5_step (rf, mem, reg, inp, im, rq, rm, lr, gvn, size, len, pages, which, exA, exT, room, trn, cnt, kd, by_, fm, fs, fp, fd, ks, lb, ov) = some M' ∧ PF (!dd) e T ls b n a ((st, mem, iq, outs, gv, (-1)), (code, lenC, beh, siz, ser, exP, lnk, limit, blocks, filled, trl, fls, dead), rqq, lrq, exe, inv, lku, itp, itr, en, ext) (rf, mem, reg, inp, im, rq, rm, lr, gvn, size, len, pages, which, exA, exT, room, trn, cnt, kd, by_, fm, fs, fp, fd, ks, lb, ov) B' M' := by
  have hG : GR f st reg := h.g
  have hs1 : BI st := h.bs
  have hr1 : BI reg := h.br
  have hMB : ∀ i, isB (mem i) := h.mb
  have c10 : cnt 10 = gv := h.c10
  obtain ⟨gn, hgn, hgv⟩ := h.gv
  have hgv : gv = nI gn := hgv
  obtain ⟨st', reg', x1, x2, x3, x4, x5, x6⟩ := sim_10 (rf := rf) (inp := inp) (im := im) (rq := rq) (rm := rm) (lr := lr) (gvn := gvn) (size := size) (len := len) (pages := pages) (which := which) (exA := exA) (exT := exT) (room := room) (trn := trn) (cnt := cnt) (kd := kd) (by_ := by_) (fm := fm) (fs := fs) (fp := fp) (fd := fd) (ks := ks) (lb := lb) (ov := ov) (dd := dd) (iq := iq) (outs := outs) (gv := gv) (wr := -1) ha hb hn hG hs1 hr1 h9 hma hMB h2 hne hk
  exact perf_nw h hb hn x1 x2 x3 x4 x5 x6 h.q h.qb h.o ⟨gn, by omega, hgv⟩ pk_us ((pk_un (by omega)).trans c10) ((pk_un (by omega)).trans (if_neg (by omega)).symm) (fun i i0 _ _ => pk_un i0) (if_neg (by omega)).symm
set_option maxRecDepth 20000 in
theorem perf_11 {mem reg inp rq gvn size len pages which exA exT cnt ks : Nat → Int32} {rf im rm lr room trn kd by_ fm fs fp fd lb ov : Int32} {st outs code lenC beh siz ser exP lnk : Nat → Int32} {iq rqq : TQ} {gv limit blocks filled trl fls dead lrq exe inv lku itp itr en ext : Int32} {f dd : Bool} {e T a b n : Nat} {ls : Nat → List (Nat × Nat)} (h : RS f e T ls ((st, mem, iq, outs, gv, (-1)), (code, lenC, beh, siz, ser, exP, lnk, limit, blocks, filled, trl, fls, dead), rqq, lrq, exe, inv, lku, itp, itr, en, ext) (rf, mem, reg, inp, im, rq, rm, lr, gvn, size, len, pages, which, exA, exT, room, trn, cnt, kd, by_, fm, fs, fp, fd, ks, lb, ov)) (he : e < 2 ^ 30) (ha : a < 256) (hb : b < 256) (hn : n < 256) (h9 : reg 9 = nI a) (hma : mem a = nI b) (h2 : bytB b = 2 → mem ((a + 1) % 256) = nI n) (hne : neeB b = true → f = true) (hk : kC b = 11) : ∃ B' M', fX4_perform ((st, mem, iq, outs, gv, (-1)), (code, lenC, beh, siz, ser, exP, lnk, limit, blocks, filled, trl, fls, dead), rqq, lrq, exe, inv, lku, itp, itr, en, ext) (nI (wd b n dd)) = some B' ∧ fX5_step (rf, mem, reg, inp, im, rq, rm, lr, gvn, size, len, pages, which, exA, exT, room, trn, cnt, kd, by_, fm, fs, fp, fd, ks, lb, ov) = some M' ∧ PF (!dd) e T ls b n a ((st, mem, iq, outs, gv, (-1)), (code, lenC, beh, siz, ser, exP, lnk, limit, blocks, filled, trl, fls, dead), rqq, lrq, exe, inv, lku, itp, itr, en, ext) (rf, mem, reg, inp, im, rq, rm, lr, gvn, size, len, pages, which, exA, exT, room, trn, cnt, kd, by_, fm, fs, fp, fd, ks, lb, ov) B' M' := by
  have hG : GR f st reg := h.g
  have hs1 : BI st := h.bs
  have hr1 : BI reg := h.br
  have hMB : ∀ i, isB (mem i) := h.mb
  have c10 : cnt 10 = gv := h.c10
  obtain ⟨gn, hgn, hgv⟩ := h.gv
  have hgv : gv = nI gn := hgv
  obtain ⟨st', reg', x1, x2, x3, x4, x5, x6⟩ := sim_11 (rf := rf) (inp := inp) (im := im) (rq := rq) (rm := rm) (lr := lr) (gvn := gvn) (size := size) (len := len) (pages := pages) (which := which) (exA := exA) (exT := exT) (room := room) (trn := trn) (cnt := cnt) (kd := kd) (by_ := by_) (fm := fm) (fs := fs) (fp := fp) (fd := fd) (ks := ks) (lb := lb) (ov := ov) (dd := dd) (iq := iq) (outs := outs) (gv := gv) (wr := -1) ha hb hn hG hs1 hr1 h9 hma hMB h2 hne hk
  exact perf_nw h hb hn x1 x2 x3 x4 x5 x6 h.q h.qb h.o ⟨gn, by omega, hgv⟩ pk_us ((pk_un (by omega)).trans c10) ((pk_un (by omega)).trans (if_neg (by omega)).symm) (fun i i0 _ _ => pk_un i0) (if_neg (by omega)).symm
set_option maxRecDepth 20000 in
theorem perf_12 {mem reg inp rq gvn size len pages which exA exT cnt ks : Nat → Int32} {rf im rm lr room trn kd by_ fm fs fp fd lb ov : Int32} {st outs code lenC beh siz ser exP lnk : Nat → Int32} {iq rqq : TQ} {gv limit blocks filled trl fls dead lrq exe inv lku itp itr en ext : Int32} {f dd : Bool} {e T a b n : Nat} {ls : Nat → List (Nat × Nat)} (h : RS f e T ls ((st, mem, iq, outs, gv, (-1)), (code, lenC, beh, siz, ser, exP, lnk, limit, blocks, filled, trl, fls, dead), rqq, lrq, exe, inv, lku, itp, itr, en, ext) (rf, mem, reg, inp, im, rq, rm, lr, gvn, size, len, pages, which, exA, exT, room, trn, cnt, kd, by_, fm, fs, fp, fd, ks, lb, ov)) (he : e < 2 ^ 30) (ha : a < 256) (hb : b < 256) (hn : n < 256) (h9 : reg 9 = nI a) (hma : mem a = nI b) (h2 : bytB b = 2 → mem ((a + 1) % 256) = nI n) (hne : neeB b = true → f = true) (hk : kC b = 12) : ∃ B' M', fX4_perform ((st, mem, iq, outs, gv, (-1)), (code, lenC, beh, siz, ser, exP, lnk, limit, blocks, filled, trl, fls, dead), rqq, lrq, exe, inv, lku, itp, itr, en, ext) (nI (wd b n dd)) = some B' ∧ fX5_step (rf, mem, reg, inp, im, rq, rm, lr, gvn, size, len, pages, which, exA, exT, room, trn, cnt, kd, by_, fm, fs, fp, fd, ks, lb, ov) = some M' ∧ PF (!dd) e T ls b n a ((st, mem, iq, outs, gv, (-1)), (code, lenC, beh, siz, ser, exP, lnk, limit, blocks, filled, trl, fls, dead), rqq, lrq, exe, inv, lku, itp, itr, en, ext) (rf, mem, reg, inp, im, rq, rm, lr, gvn, size, len, pages, which, exA, exT, room, trn, cnt, kd, by_, fm, fs, fp, fd, ks, lb, ov) B' M' := by
  have hG : GR f st reg := h.g
  have hs1 : BI st := h.bs
  have hr1 : BI reg := h.br
  have hMB : ∀ i, isB (mem i) := h.mb
  have c10 : cnt 10 = gv := h.c10
  obtain ⟨gn, hgn, hgv⟩ := h.gv
  have hgv : gv = nI gn := hgv
  obtain ⟨st', reg', x1, x2, x3, x4, x5, x6⟩ := sim_12 (rf := rf) (inp := inp) (im := im) (rq := rq) (rm := rm) (lr := lr) (gvn := gvn) (size := size) (len := len) (pages := pages) (which := which) (exA := exA) (exT := exT) (room := room) (trn := trn) (cnt := cnt) (kd := kd) (by_ := by_) (fm := fm) (fs := fs) (fp := fp) (fd := fd) (ks := ks) (lb := lb) (ov := ov) (dd := dd) (iq := iq) (outs := outs) (gv := gv) (wr := -1) ha hb hn hG hs1 hr1 h9 hma hMB h2 hne hk
  exact perf_nw h hb hn x1 x2 x3 x4 x5 x6 h.q h.qb h.o ⟨gn, by omega, hgv⟩ pk_us ((pk_un (by omega)).trans c10) ((pk_un (by omega)).trans (if_neg (by omega)).symm) (fun i i0 _ _ => pk_un i0) (if_neg (by omega)).symm
set_option maxRecDepth 20000 in
theorem perf_13 {mem reg inp rq gvn size len pages which exA exT cnt ks : Nat → Int32} {rf im rm lr room trn kd by_ fm fs fp fd lb ov : Int32} {st outs code lenC beh siz ser exP lnk : Nat → Int32} {iq rqq : TQ} {gv limit blocks filled trl fls dead lrq exe inv lku itp itr en ext : Int32} {f dd : Bool} {e T a b n : Nat} {ls : Nat → List (Nat × Nat)} (h : RS f e T ls ((st, mem, iq, outs, gv, (-1)), (code, lenC, beh, siz, ser, exP, lnk, limit, blocks, filled, trl, fls, dead), rqq, lrq, exe, inv, lku, itp, itr, en, ext) (rf, mem, reg, inp, im, rq, rm, lr, gvn, size, len, pages, which, exA, exT, room, trn, cnt, kd, by_, fm, fs, fp, fd, ks, lb, ov)) (he : e < 2 ^ 30) (ha : a < 256) (hb : b < 256) (hn : n < 256) (h9 : reg 9 = nI a) (hma : mem a = nI b) (h2 : bytB b = 2 → mem ((a + 1) % 256) = nI n) (hne : neeB b = true → f = true) (hk : kC b = 13) : ∃ B' M', fX4_perform ((st, mem, iq, outs, gv, (-1)), (code, lenC, beh, siz, ser, exP, lnk, limit, blocks, filled, trl, fls, dead), rqq, lrq, exe, inv, lku, itp, itr, en, ext) (nI (wd b n dd)) = some B' ∧ fX5_step (rf, mem, reg, inp, im, rq, rm, lr, gvn, size, len, pages, which, exA, exT, room, trn, cnt, kd, by_, fm, fs, fp, fd, ks, lb, ov) = some M' ∧ PF (!dd) e T ls b n a ((st, mem, iq, outs, gv, (-1)), (code, lenC, beh, siz, ser, exP, lnk, limit, blocks, filled, trl, fls, dead), rqq, lrq, exe, inv, lku, itp, itr, en, ext) (rf, mem, reg, inp, im, rq, rm, lr, gvn, size, len, pages, which, exA, exT, room, trn, cnt, kd, by_, fm, fs, fp, fd, ks, lb, ov) B' M' := by
  have hG : GR f st reg := h.g
  have hs1 : BI st := h.bs
  have hr1 : BI reg := h.br
  have hMB : ∀ i, isB (mem i) := h.mb
  have c10 : cnt 10 = gv := h.c10
  obtain ⟨gn, hgn, hgv⟩ := h.gv
  have hgv : gv = nI gn := hgv
  obtain ⟨st', reg', x1, x2, x3, x4, x5, x6⟩ := sim_13 (rf := rf) (inp := inp) (im := im) (rq := rq) (rm := rm) (lr := lr) (gvn := gvn) (size := size) (len := len) (pages := pages) (which := which) (exA := exA) (exT := exT) (room := room) (trn := trn) (cnt := cnt) (kd := kd) (by_ := by_) (fm := fm) (fs := fs) (fp := fp) (fd := fd) (ks := ks) (lb := lb) (ov := ov) (dd := dd) (iq := iq) (outs := outs) (gv := gv) (wr := -1) ha hb hn hG hs1 hr1 h9 hma hMB h2 hne hk
  exact perf_nw h hb hn x1 x2 x3 x4 x5 x6 h.q h.qb h.o ⟨gn, by omega, hgv⟩ pk_us ((pk_un (by omega)).trans c10) ((pk_un (by omega)).trans (if_neg (by omega)).symm) (fun i i0 _ _ => pk_un i0) (if_neg (by omega)).symm
set_option maxRecDepth 20000 in
theorem perf_14 {mem reg inp rq gvn size len pages which exA exT cnt ks : Nat → Int32} {rf im rm lr room trn kd by_ fm fs fp fd lb ov : Int32} {st outs code lenC beh siz ser exP lnk : Nat → Int32} {iq rqq : TQ} {gv limit blocks filled trl fls dead lrq exe inv lku itp itr en ext : Int32} {f dd : Bool} {e T a b n : Nat} {ls : Nat → List (Nat × Nat)} (h : RS f e T ls ((st, mem, iq, outs, gv, (-1)), (code, lenC, beh, siz, ser, exP, lnk, limit, blocks, filled, trl, fls, dead), rqq, lrq, exe, inv, lku, itp, itr, en, ext) (rf, mem, reg, inp, im, rq, rm, lr, gvn, size, len, pages, which, exA, exT, room, trn, cnt, kd, by_, fm, fs, fp, fd, ks, lb, ov)) (he : e < 2 ^ 30) (ha : a < 256) (hb : b < 256) (hn : n < 256) (h9 : reg 9 = nI a) (hma : mem a = nI b) (h2 : bytB b = 2 → mem ((a + 1) % 256) = nI n) (hne : neeB b = true → f = true) (hk : kC b = 14) : ∃ B' M', fX4_perform ((st, mem, iq, outs, gv, (-1)), (code, lenC, beh, siz, ser, exP, lnk, limit, blocks, filled, trl, fls, dead), rqq, lrq, exe, inv, lku, itp, itr, en, ext) (nI (wd b n dd)) = some B' ∧ fX5_step (rf, mem, reg, inp, im, rq, rm, lr, gvn, size, len, pages, which, exA, exT, room, trn, cnt, kd, by_, fm, fs, fp, fd, ks, lb, ov) = some M' ∧ PF (!dd) e T ls b n a ((st, mem, iq, outs, gv, (-1)), (code, lenC, beh, siz, ser, exP, lnk, limit, blocks, filled, trl, fls, dead), rqq, lrq, exe, inv, lku, itp, itr, en, ext) (rf, mem, reg, inp, im, rq, rm, lr, gvn, size, len, pages, which, exA, exT, room, trn, cnt, kd, by_, fm, fs, fp, fd, ks, lb, ov) B' M' := by
  have hG : GR f st reg := h.g
  have hs1 : BI st := h.bs
  have hr1 : BI reg := h.br
  have hMB : ∀ i, isB (mem i) := h.mb
  have c10 : cnt 10 = gv := h.c10
  obtain ⟨gn, hgn, hgv⟩ := h.gv
  have hgv : gv = nI gn := hgv
  obtain ⟨st', reg', x1, x2, x3, x4, x5, x6⟩ := sim_14 (rf := rf) (inp := inp) (im := im) (rq := rq) (rm := rm) (lr := lr) (gvn := gvn) (size := size) (len := len) (pages := pages) (which := which) (exA := exA) (exT := exT) (room := room) (trn := trn) (cnt := cnt) (kd := kd) (by_ := by_) (fm := fm) (fs := fs) (fp := fp) (fd := fd) (ks := ks) (lb := lb) (ov := ov) (dd := dd) (iq := iq) (outs := outs) (gv := gv) (wr := -1) ha hb hn hG hs1 hr1 h9 hma hMB h2 hne hk
  exact perf_nw h hb hn x1 x2 x3 x4 x5 x6 h.q h.qb h.o ⟨gn, by omega, hgv⟩ pk_us ((pk_un (by omega)).trans c10) ((pk_un (by omega)).trans (if_neg (by omega)).symm) (fun i i0 _ _ => pk_un i0) (if_neg (by omega)).symm
set_option maxRecDepth 20000 in
theorem perf_15 {mem reg inp rq gvn size len pages which exA exT cnt ks : Nat → Int32} {rf im rm lr room trn kd by_ fm fs fp fd lb ov : Int32} {st outs code lenC beh siz ser exP lnk : Nat → Int32} {iq rqq : TQ} {gv limit blocks filled trl fls dead lrq exe inv lku itp itr en ext : Int32} {f dd : Bool} {e T a b n : Nat} {ls : Nat → List (Nat × Nat)} (h : RS f e T ls ((st, mem, iq, outs, gv, (-1)), (code, lenC, beh, siz, ser, exP, lnk, limit, blocks, filled, trl, fls, dead), rqq, lrq, exe, inv, lku, itp, itr, en, ext) (rf, mem, reg, inp, im, rq, rm, lr, gvn, size, len, pages, which, exA, exT, room, trn, cnt, kd, by_, fm, fs, fp, fd, ks, lb, ov)) (he : e < 2 ^ 30) (ha : a < 256) (hb : b < 256) (hn : n < 256) (h9 : reg 9 = nI a) (hma : mem a = nI b) (h2 : bytB b = 2 → mem ((a + 1) % 256) = nI n) (hne : neeB b = true → f = true) (hk : kC b = 15) : ∃ B' M', fX4_perform ((st, mem, iq, outs, gv, (-1)), (code, lenC, beh, siz, ser, exP, lnk, limit, blocks, filled, trl, fls, dead), rqq, lrq, exe, inv, lku, itp, itr, en, ext) (nI (wd b n dd)) = some B' ∧ fX5_step (rf, mem, reg, inp, im, rq, rm, lr, gvn, size, len, pages, which, exA, exT, room, trn, cnt, kd, by_, fm, fs, fp, fd, ks, lb, ov) = some M' ∧ PF (!dd) e T ls b n a ((st, mem, iq, outs, gv, (-1)), (code, lenC, beh, siz, ser, exP, lnk, limit, blocks, filled, trl, fls, dead), rqq, lrq, exe, inv, lku, itp, itr, en, ext) (rf, mem, reg, inp, im, rq, rm, lr, gvn, size, len, pages, which, exA, exT, room, trn, cnt, kd, by_, fm, fs, fp, fd, ks, lb, ov) B' M' := by
  have hG : GR f st reg := h.g
  have hs1 : BI st := h.bs
  have hr1 : BI reg := h.br
  have hMB : ∀ i, isB (mem i) := h.mb
  have c10 : cnt 10 = gv := h.c10
  obtain ⟨gn, hgn, hgv⟩ := h.gv
  have hgv : gv = nI gn := hgv
  obtain ⟨st', reg', x1, x2, x3, x4, x5, x6⟩ := sim_15 (rf := rf) (inp := inp) (im := im) (rq := rq) (rm := rm) (lr := lr) (gvn := gvn) (size := size) (len := len) (pages := pages) (which := which) (exA := exA) (exT := exT) (room := room) (trn := trn) (cnt := cnt) (kd := kd) (by_ := by_) (fm := fm) (fs := fs) (fp := fp) (fd := fd) (ks := ks) (lb := lb) (ov := ov) (dd := dd) (iq := iq) (outs := outs) (gv := gv) (wr := -1) ha hb hn hG hs1 hr1 h9 hma hMB h2 hne hk
  exact perf_nw h hb hn x1 x2 x3 x4 x5 x6 h.q h.qb h.o ⟨gn, by omega, hgv⟩ pk_us ((pk_un (by omega)).trans c10) ((pk_un (by omega)).trans (if_neg (by omega)).symm) (fun i i0 _ _ => pk_un i0) (if_neg (by omega)).symm
set_option maxRecDepth 20000 in
theorem perf_16 {mem reg inp rq gvn size len pages which exA exT cnt ks : Nat → Int32} {rf im rm lr room trn kd by_ fm fs fp fd lb ov : Int32} {st outs code lenC beh siz ser exP lnk : Nat → Int32} {iq rqq : TQ} {gv limit blocks filled trl fls dead lrq exe inv lku itp itr en ext : Int32} {f dd : Bool} {e T a b n : Nat} {ls : Nat → List (Nat × Nat)} (h : RS f e T ls ((st, mem, iq, outs, gv, (-1)), (code, lenC, beh, siz, ser, exP, lnk, limit, blocks, filled, trl, fls, dead), rqq, lrq, exe, inv, lku, itp, itr, en, ext) (rf, mem, reg, inp, im, rq, rm, lr, gvn, size, len, pages, which, exA, exT, room, trn, cnt, kd, by_, fm, fs, fp, fd, ks, lb, ov)) (he : e < 2 ^ 30) (ha : a < 256) (hb : b < 256) (hn : n < 256) (h9 : reg 9 = nI a) (hma : mem a = nI b) (h2 : bytB b = 2 → mem ((a + 1) % 256) = nI n) (hne : neeB b = true → f = true) (hk : kC b = 16) : ∃ B' M', fX4_perform ((st, mem, iq, outs, gv, (-1)), (code, lenC, beh, siz, ser, exP, lnk, limit, blocks, filled, trl, fls, dead), rqq, lrq, exe, inv, lku, itp, itr, en, ext) (nI (wd b n dd)) = some B' ∧ fX5_step (rf, mem, reg, inp, im, rq, rm, lr, gvn, size, len, pages, which, exA, exT, room, trn, cnt, kd, by_, fm, fs, fp, fd, ks, lb, ov) = some M' ∧ PF (!dd) e T ls b n a ((st, mem, iq, outs, gv, (-1)), (code, lenC, beh, siz, ser, exP, lnk, limit, blocks, filled, trl, fls, dead), rqq, lrq, exe, inv, lku, itp, itr, en, ext) (rf, mem, reg, inp, im, rq, rm, lr, gvn, size, len, pages, which, exA, exT, room, trn, cnt, kd, by_, fm, fs, fp, fd, ks, lb, ov) B' M' := by
  have hG : GR f st reg := h.g
  have hs1 : BI st := h.bs
  have hr1 : BI reg := h.br
  have hMB : ∀ i, isB (mem i) := h.mb
  have c10 : cnt 10 = gv := h.c10
  obtain ⟨gn, hgn, hgv⟩ := h.gv
  have hgv : gv = nI gn := hgv
  obtain ⟨st', reg', x1, x2, x3, x4, x5, x6⟩ := sim_16 (rf := rf) (inp := inp) (im := im) (rq := rq) (rm := rm) (lr := lr) (gvn := gvn) (size := size) (len := len) (pages := pages) (which := which) (exA := exA) (exT := exT) (room := room) (trn := trn) (cnt := cnt) (kd := kd) (by_ := by_) (fm := fm) (fs := fs) (fp := fp) (fd := fd) (ks := ks) (lb := lb) (ov := ov) (dd := dd) (iq := iq) (outs := outs) (gv := gv) (wr := -1) ha hb hn hG hs1 hr1 h9 hma hMB h2 hne hk
  exact perf_nw h hb hn x1 x2 x3 x4 x5 x6 h.q h.qb h.o ⟨gn, by omega, hgv⟩ pk_us ((pk_un (by omega)).trans c10) ((pk_un (by omega)).trans (if_neg (by omega)).symm) (fun i i0 _ _ => pk_un i0) (if_neg (by omega)).symm
set_option maxRecDepth 20000 in
theorem perf_18 {mem reg inp rq gvn size len pages which exA exT cnt ks : Nat → Int32} {rf im rm lr room trn kd by_ fm fs fp fd lb ov : Int32} {st outs code lenC beh siz ser exP lnk : Nat → Int32} {iq rqq : TQ} {gv limit blocks filled trl fls dead lrq exe inv lku itp itr en ext : Int32} {f dd : Bool} {e T a b n : Nat} {ls : Nat → List (Nat × Nat)} (h : RS f e T ls ((st, mem, iq, outs, gv, (-1)), (code, lenC, beh, siz, ser, exP, lnk, limit, blocks, filled, trl, fls, dead), rqq, lrq, exe, inv, lku, itp, itr, en, ext) (rf, mem, reg, inp, im, rq, rm, lr, gvn, size, len, pages, which, exA, exT, room, trn, cnt, kd, by_, fm, fs, fp, fd, ks, lb, ov)) (he : e < 2 ^ 30) (ha : a < 256) (hb : b < 256) (hn : n < 256) (h9 : reg 9 = nI a) (hma : mem a = nI b) (h2 : bytB b = 2 → mem ((a + 1) % 256) = nI n) (hne : neeB b = true → f = true) (hk : kC b = 18) : ∃ B' M', fX4_perform ((st, mem, iq, outs, gv, (-1)), (code, lenC, beh, siz, ser, exP, lnk, limit, blocks, filled, trl, fls, dead), rqq, lrq, exe, inv, lku, itp, itr, en, ext) (nI (wd b n dd)) = some B' ∧ fX5_step (rf, mem, reg, inp, im, rq, rm, lr, gvn, size, len, pages, which, exA, exT, room, trn, cnt, kd, by_, fm, fs, fp, fd, ks, lb, ov) = some M' ∧ PF (!dd) e T ls b n a ((st, mem, iq, outs, gv, (-1)), (code, lenC, beh, siz, ser, exP, lnk, limit, blocks, filled, trl, fls, dead), rqq, lrq, exe, inv, lku, itp, itr, en, ext) (rf, mem, reg, inp, im, rq, rm, lr, gvn, size, len, pages, which, exA, exT, room, trn, cnt, kd, by_, fm, fs, fp, fd, ks, lb, ov) B' M' := by
  have hG : GR f st reg := h.g
  have hs1 : BI st := h.bs
  have hr1 : BI reg := h.br
  have hMB : ∀ i, isB (mem i) := h.mb
  have c10 : cnt 10 = gv := h.c10
  obtain ⟨gn, hgn, hgv⟩ := h.gv
  have hgv : gv = nI gn := hgv
  obtain ⟨st', reg', x1, x2, x3, x4, x5, x6⟩ := sim_18 (rf := rf) (inp := inp) (im := im) (rq := rq) (rm := rm) (lr := lr) (gvn := gvn) (size := size) (len := len) (pages := pages) (which := which) (exA := exA) (exT := exT) (room := room) (trn := trn) (cnt := cnt) (kd := kd) (by_ := by_) (fm := fm) (fs := fs) (fp := fp) (fd := fd) (ks := ks) (lb := lb) (ov := ov) (dd := dd) (iq := iq) (outs := outs) (gv := gv) (wr := -1) ha hb hn hG hs1 hr1 h9 hma hMB h2 hne hk
  exact perf_nw h hb hn x1 x2 x3 x4 x5 x6 h.q h.qb h.o ⟨gn, by omega, hgv⟩ pk_us ((pk_un (by omega)).trans c10) ((pk_un (by omega)).trans (if_neg (by omega)).symm) (fun i i0 _ _ => pk_un i0) (if_neg (by omega)).symm
set_option maxRecDepth 20000 in
theorem perf_19 {mem reg inp rq gvn size len pages which exA exT cnt ks : Nat → Int32} {rf im rm lr room trn kd by_ fm fs fp fd lb ov : Int32} {st outs code lenC beh siz ser exP lnk : Nat → Int32} {iq rqq : TQ} {gv limit blocks filled trl fls dead lrq exe inv lku itp itr en ext : Int32} {f dd : Bool} {e T a b n : Nat} {ls : Nat → List (Nat × Nat)} (h : RS f e T ls ((st, mem, iq, outs, gv, (-1)), (code, lenC, beh, siz, ser, exP, lnk, limit, blocks, filled, trl, fls, dead), rqq, lrq, exe, inv, lku, itp, itr, en, ext) (rf, mem, reg, inp, im, rq, rm, lr, gvn, size, len, pages, which, exA, exT, room, trn, cnt, kd, by_, fm, fs, fp, fd, ks, lb, ov)) (he : e < 2 ^ 30) (ha : a < 256) (hb : b < 256) (hn : n < 256) (h9 : reg 9 = nI a) (hma : mem a = nI b) (h2 : bytB b = 2 → mem ((a + 1) % 256) = nI n) (hne : neeB b = true → f = true) (hk : kC b = 19) : ∃ B' M', fX4_perform ((st, mem, iq, outs, gv, (-1)), (code, lenC, beh, siz, ser, exP, lnk, limit, blocks, filled, trl, fls, dead), rqq, lrq, exe, inv, lku, itp, itr, en, ext) (nI (wd b n dd)) = some B' ∧ fX5_step (rf, mem, reg, inp, im, rq, rm, lr, gvn, size, len, pages, which, exA, exT, room, trn, cnt, kd, by_, fm, fs, fp, fd, ks, lb, ov) = some M' ∧ PF (!dd) e T ls b n a ((st, mem, iq, outs, gv, (-1)), (code, lenC, beh, siz, ser, exP, lnk, limit, blocks, filled, trl, fls, dead), rqq, lrq, exe, inv, lku, itp, itr, en, ext) (rf, mem, reg, inp, im, rq, rm, lr, gvn, size, len, pages, which, exA, exT, room, trn, cnt, kd, by_, fm, fs, fp, fd, ks, lb, ov) B' M' := by
  have hG : GR f st reg := h.g
  have hs1 : BI st := h.bs
  have hr1 : BI reg := h.br
  have hMB : ∀ i, isB (mem i) := h.mb
  have c10 : cnt 10 = gv := h.c10
  obtain ⟨gn, hgn, hgv⟩ := h.gv
  have hgv : gv = nI gn := hgv
  obtain ⟨st', reg', x1, x2, x3, x4, x5, x6⟩ := sim_19 (rf := rf) (inp := inp) (im := im) (rq := rq) (rm := rm) (lr := lr) (gvn := gvn) (size := size) (len := len) (pages := pages) (which := which) (exA := exA) (exT := exT) (room := room) (trn := trn) (cnt := cnt) (kd := kd) (by_ := by_) (fm := fm) (fs := fs) (fp := fp) (fd := fd) (ks := ks) (lb := lb) (ov := ov) (dd := dd) (iq := iq) (outs := outs) (gv := gv) (wr := -1) ha hb hn hG hs1 hr1 h9 hma hMB h2 hne hk
  exact perf_nw h hb hn x1 x2 x3 x4 x5 x6 h.q h.qb h.o ⟨gn, by omega, hgv⟩ pk_us ((pk_un (by omega)).trans c10) ((pk_un (by omega)).trans (if_neg (by omega)).symm) (fun i i0 _ _ => pk_un i0) (if_neg (by omega)).symm
set_option maxRecDepth 20000 in
theorem perf_20 {mem reg inp rq gvn size len pages which exA exT cnt ks : Nat → Int32} {rf im rm lr room trn kd by_ fm fs fp fd lb ov : Int32} {st outs code lenC beh siz ser exP lnk : Nat → Int32} {iq rqq : TQ} {gv limit blocks filled trl fls dead lrq exe inv lku itp itr en ext : Int32} {f dd : Bool} {e T a b n : Nat} {ls : Nat → List (Nat × Nat)} (h : RS f e T ls ((st, mem, iq, outs, gv, (-1)), (code, lenC, beh, siz, ser, exP, lnk, limit, blocks, filled, trl, fls, dead), rqq, lrq, exe, inv, lku, itp, itr, en, ext) (rf, mem, reg, inp, im, rq, rm, lr, gvn, size, len, pages, which, exA, exT, room, trn, cnt, kd, by_, fm, fs, fp, fd, ks, lb, ov)) (he : e < 2 ^ 30) (ha : a < 256) (hb : b < 256) (hn : n < 256) (h9 : reg 9 = nI a) (hma : mem a = nI b) (h2 : bytB b = 2 → mem ((a + 1) % 256) = nI n) (hne : neeB b = true → f = true) (hk : kC b = 20) : ∃ B' M', fX4_perform ((st, mem, iq, outs, gv, (-1)), (code, lenC, beh, siz, ser, exP, lnk, limit, blocks, filled, trl, fls, dead), rqq, lrq, exe, inv, lku, itp, itr, en, ext) (nI (wd b n dd)) = some B' ∧ fX5_step (rf, mem, reg, inp, im, rq, rm, lr, gvn, size, len, pages, which, exA, exT, room, trn, cnt, kd, by_, fm, fs, fp, fd, ks, lb, ov) = some M' ∧ PF (!dd) e T ls b n a ((st, mem, iq, outs, gv, (-1)), (code, lenC, beh, siz, ser, exP, lnk, limit, blocks, filled, trl, fls, dead), rqq, lrq, exe, inv, lku, itp, itr, en, ext) (rf, mem, reg, inp, im, rq, rm, lr, gvn, size, len, pages, which, exA, exT, room, trn, cnt, kd, by_, fm, fs, fp, fd, ks, lb, ov) B' M' := by
  have hG : GR f st reg := h.g
  have hs1 : BI st := h.bs
  have hr1 : BI reg := h.br
  have hMB : ∀ i, isB (mem i) := h.mb
  have c10 : cnt 10 = gv := h.c10
  obtain ⟨gn, hgn, hgv⟩ := h.gv
  have hgv : gv = nI gn := hgv
  obtain ⟨st', reg', x1, x2, x3, x4, x5, x6⟩ := sim_20 (rf := rf) (inp := inp) (im := im) (rq := rq) (rm := rm) (lr := lr) (gvn := gvn) (size := size) (len := len) (pages := pages) (which := which) (exA := exA) (exT := exT) (room := room) (trn := trn) (cnt := cnt) (kd := kd) (by_ := by_) (fm := fm) (fs := fs) (fp := fp) (fd := fd) (ks := ks) (lb := lb) (ov := ov) (dd := dd) (iq := iq) (outs := outs) (gv := gv) (wr := -1) ha hb hn hG hs1 hr1 h9 hma hMB h2 hne hk
  exact perf_nw h hb hn x1 x2 x3 x4 x5 x6 h.q h.qb h.o ⟨gn, by omega, hgv⟩ pk_us ((pk_un (by omega)).trans c10) ((pk_un (by omega)).trans (if_neg (by omega)).symm) (fun i i0 _ _ => pk_un i0) (if_neg (by omega)).symm
set_option maxRecDepth 20000 in
theorem perf_4 {mem reg inp rq gvn size len pages which exA exT cnt ks : Nat → Int32} {rf im rm lr room trn kd by_ fm fs fp fd lb ov : Int32} {st outs code lenC beh siz ser exP lnk : Nat → Int32} {iq rqq : TQ} {gv limit blocks filled trl fls dead lrq exe inv lku itp itr en ext : Int32} {f : Bool} {e T a b n : Nat} {ls : Nat → List (Nat × Nat)} (h : RS f e T ls ((st, mem, iq, outs, gv, (-1)), (code, lenC, beh, siz, ser, exP, lnk, limit, blocks, filled, trl, fls, dead), rqq, lrq, exe, inv, lku, itp, itr, en, ext) (rf, mem, reg, inp, im, rq, rm, lr, gvn, size, len, pages, which, exA, exT, room, trn, cnt, kd, by_, fm, fs, fp, fd, ks, lb, ov)) (he : e < 2 ^ 30) (ha : a < 256) (hb : b < 256) (hn : n < 256) (h9 : reg 9 = nI a) (hma : mem a = nI b) (h2 : bytB b = 2 → mem ((a + 1) % 256) = nI n) (hne : neeB b = true → f = true) (hk : kC b = 4) : ∃ B' M', fX4_perform ((st, mem, iq, outs, gv, (-1)), (code, lenC, beh, siz, ser, exP, lnk, limit, blocks, filled, trl, fls, dead), rqq, lrq, exe, inv, lku, itp, itr, en, ext) (nI (wd b n false)) = some B' ∧ fX5_step (rf, mem, reg, inp, im, rq, rm, lr, gvn, size, len, pages, which, exA, exT, room, trn, cnt, kd, by_, fm, fs, fp, fd, ks, lb, ov) = some M' ∧ PF f e T ls b n a ((st, mem, iq, outs, gv, (-1)), (code, lenC, beh, siz, ser, exP, lnk, limit, blocks, filled, trl, fls, dead), rqq, lrq, exe, inv, lku, itp, itr, en, ext) (rf, mem, reg, inp, im, rq, rm, lr, gvn, size, len, pages, which, exA, exT, room, trn, cnt, kd, by_, fm, fs, fp, fd, ks, lb, ov) B' M' := by
  have hG : GR f st reg := h.g
  have hs1 : BI st := h.bs
  have hr1 : BI reg := h.br
  have hMB : ∀ i, isB (mem i) := h.mb
  have c10 : cnt 10 = gv := h.c10
  obtain ⟨gn, hgn, hgv⟩ := h.gv
  have hgv : gv = nI gn := hgv
  obtain ⟨st', reg', x1, x2, x3, x4, x5, x6⟩ := sim_4 (rf := rf) (inp := inp) (im := im) (rq := rq) (rm := rm) (lr := lr) (gvn := gvn) (size := size) (len := len) (pages := pages) (which := which) (exA := exA) (exT := exT) (room := room) (trn := trn) (cnt := cnt) (kd := kd) (by_ := by_) (fm := fm) (fs := fs) (fp := fp) (fd := fd) (ks := ks) (lb := lb) (ov := ov) (iq := iq) (outs := outs) (gv := gv) (wr := -1) ha hb hn hG hs1 hr1 h9 hma hMB h2 hne hk
  exact perf_nw h hb hn x1 x2 x3 x4 x5 x6 h.q h.qb h.o ⟨gn, by omega, hgv⟩ pk_us ((pk_un (by omega)).trans c10) ((pk_un (by omega)).trans (if_neg (by omega)).symm) (fun i i0 _ _ => pk_un i0) (if_neg (by omega)).symm
set_option maxRecDepth 20000 in
theorem perf_5 {mem reg inp rq gvn size len pages which exA exT cnt ks : Nat → Int32} {rf im rm lr room trn kd by_ fm fs fp fd lb ov : Int32} {st outs code lenC beh siz ser exP lnk : Nat → Int32} {iq rqq : TQ} {gv limit blocks filled trl fls dead lrq exe inv lku itp itr en ext : Int32} {f : Bool} {e T a b n : Nat} {ls : Nat → List (Nat × Nat)} (h : RS f e T ls ((st, mem, iq, outs, gv, (-1)), (code, lenC, beh, siz, ser, exP, lnk, limit, blocks, filled, trl, fls, dead), rqq, lrq, exe, inv, lku, itp, itr, en, ext) (rf, mem, reg, inp, im, rq, rm, lr, gvn, size, len, pages, which, exA, exT, room, trn, cnt, kd, by_, fm, fs, fp, fd, ks, lb, ov)) (he : e < 2 ^ 30) (ha : a < 256) (hb : b < 256) (hn : n < 256) (h9 : reg 9 = nI a) (hma : mem a = nI b) (h2 : bytB b = 2 → mem ((a + 1) % 256) = nI n) (hne : neeB b = true → f = true) (hk : kC b = 5) : ∃ B' M', fX4_perform ((st, mem, iq, outs, gv, (-1)), (code, lenC, beh, siz, ser, exP, lnk, limit, blocks, filled, trl, fls, dead), rqq, lrq, exe, inv, lku, itp, itr, en, ext) (nI (wd b n false)) = some B' ∧ fX5_step (rf, mem, reg, inp, im, rq, rm, lr, gvn, size, len, pages, which, exA, exT, room, trn, cnt, kd, by_, fm, fs, fp, fd, ks, lb, ov) = some M' ∧ PF f e T ls b n a ((st, mem, iq, outs, gv, (-1)), (code, lenC, beh, siz, ser, exP, lnk, limit, blocks, filled, trl, fls, dead), rqq, lrq, exe, inv, lku, itp, itr, en, ext) (rf, mem, reg, inp, im, rq, rm, lr, gvn, size, len, pages, which, exA, exT, room, trn, cnt, kd, by_, fm, fs, fp, fd, ks, lb, ov) B' M' := by
  have hG : GR f st reg := h.g
  have hs1 : BI st := h.bs
  have hr1 : BI reg := h.br
  have hMB : ∀ i, isB (mem i) := h.mb
  have c10 : cnt 10 = gv := h.c10
  obtain ⟨gn, hgn, hgv⟩ := h.gv
  have hgv : gv = nI gn := hgv
  obtain ⟨st', reg', x1, x2, x3, x4, x5, x6⟩ := sim_5 (rf := rf) (inp := inp) (im := im) (rq := rq) (rm := rm) (lr := lr) (gvn := gvn) (size := size) (len := len) (pages := pages) (which := which) (exA := exA) (exT := exT) (room := room) (trn := trn) (cnt := cnt) (kd := kd) (by_ := by_) (fm := fm) (fs := fs) (fp := fp) (fd := fd) (ks := ks) (lb := lb) (ov := ov) (iq := iq) (outs := outs) (gv := gv) (wr := -1) ha hb hn hG hs1 hr1 h9 hma hMB h2 hne hk
  exact perf_nw h hb hn x1 x2 x3 x4 x5 x6 h.q h.qb h.o ⟨gn, by omega, hgv⟩ pk_us ((pk_un (by omega)).trans c10) ((pk_un (by omega)).trans (if_neg (by omega)).symm) (fun i i0 _ _ => pk_un i0) (if_neg (by omega)).symm
set_option maxRecDepth 20000 in
theorem perf_6 {mem reg inp rq gvn size len pages which exA exT cnt ks : Nat → Int32} {rf im rm lr room trn kd by_ fm fs fp fd lb ov : Int32} {st outs code lenC beh siz ser exP lnk : Nat → Int32} {iq rqq : TQ} {gv limit blocks filled trl fls dead lrq exe inv lku itp itr en ext : Int32} {f : Bool} {e T a b n : Nat} {ls : Nat → List (Nat × Nat)} (h : RS f e T ls ((st, mem, iq, outs, gv, (-1)), (code, lenC, beh, siz, ser, exP, lnk, limit, blocks, filled, trl, fls, dead), rqq, lrq, exe, inv, lku, itp, itr, en, ext) (rf, mem, reg, inp, im, rq, rm, lr, gvn, size, len, pages, which, exA, exT, room, trn, cnt, kd, by_, fm, fs, fp, fd, ks, lb, ov)) (he : e < 2 ^ 30) (ha : a < 256) (hb : b < 256) (hn : n < 256) (h9 : reg 9 = nI a) (hma : mem a = nI b) (h2 : bytB b = 2 → mem ((a + 1) % 256) = nI n) (hne : neeB b = true → f = true) (hk : kC b = 6) : ∃ B' M', fX4_perform ((st, mem, iq, outs, gv, (-1)), (code, lenC, beh, siz, ser, exP, lnk, limit, blocks, filled, trl, fls, dead), rqq, lrq, exe, inv, lku, itp, itr, en, ext) (nI (wd b n false)) = some B' ∧ fX5_step (rf, mem, reg, inp, im, rq, rm, lr, gvn, size, len, pages, which, exA, exT, room, trn, cnt, kd, by_, fm, fs, fp, fd, ks, lb, ov) = some M' ∧ PF f e T ls b n a ((st, mem, iq, outs, gv, (-1)), (code, lenC, beh, siz, ser, exP, lnk, limit, blocks, filled, trl, fls, dead), rqq, lrq, exe, inv, lku, itp, itr, en, ext) (rf, mem, reg, inp, im, rq, rm, lr, gvn, size, len, pages, which, exA, exT, room, trn, cnt, kd, by_, fm, fs, fp, fd, ks, lb, ov) B' M' := by
  have hG : GR f st reg := h.g
  have hs1 : BI st := h.bs
  have hr1 : BI reg := h.br
  have hMB : ∀ i, isB (mem i) := h.mb
  have c10 : cnt 10 = gv := h.c10
  obtain ⟨gn, hgn, hgv⟩ := h.gv
  have hgv : gv = nI gn := hgv
  obtain ⟨st', reg', x1, x2, x3, x4, x5, x6⟩ := sim_6 (rf := rf) (inp := inp) (im := im) (rq := rq) (rm := rm) (lr := lr) (gvn := gvn) (size := size) (len := len) (pages := pages) (which := which) (exA := exA) (exT := exT) (room := room) (trn := trn) (cnt := cnt) (kd := kd) (by_ := by_) (fm := fm) (fs := fs) (fp := fp) (fd := fd) (ks := ks) (lb := lb) (ov := ov) (iq := iq) (outs := outs) (gv := gv) (wr := -1) ha hb hn hG hs1 hr1 h9 hma hMB h2 hne hk
  exact perf_nw h hb hn x1 x2 x3 x4 x5 x6 h.q h.qb h.o ⟨gn, by omega, hgv⟩ pk_us ((pk_un (by omega)).trans c10) ((pk_un (by omega)).trans (if_neg (by omega)).symm) (fun i i0 _ _ => pk_un i0) (if_neg (by omega)).symm
set_option maxRecDepth 20000 in
theorem perf_17 {mem reg inp rq gvn size len pages which exA exT cnt ks : Nat → Int32} {rf im rm lr room trn kd by_ fm fs fp fd lb ov : Int32} {st outs code lenC beh siz ser exP lnk : Nat → Int32} {iq rqq : TQ} {gv limit blocks filled trl fls dead lrq exe inv lku itp itr en ext : Int32} {f : Bool} {e T a b n : Nat} {ls : Nat → List (Nat × Nat)} (h : RS f e T ls ((st, mem, iq, outs, gv, (-1)), (code, lenC, beh, siz, ser, exP, lnk, limit, blocks, filled, trl, fls, dead), rqq, lrq, exe, inv, lku, itp, itr, en, ext) (rf, mem, reg, inp, im, rq, rm, lr, gvn, size, len, pages, which, exA, exT, room, trn, cnt, kd, by_, fm, fs, fp, fd, ks, lb, ov)) (he : e < 2 ^ 30) (ha : a < 256) (hb : b < 256) (hn : n < 256) (h9 : reg 9 = nI a) (hma : mem a = nI b) (h2 : bytB b = 2 → mem ((a + 1) % 256) = nI n) (hne : neeB b = true → f = true) (hk : kC b = 17) : ∃ B' M', fX4_perform ((st, mem, iq, outs, gv, (-1)), (code, lenC, beh, siz, ser, exP, lnk, limit, blocks, filled, trl, fls, dead), rqq, lrq, exe, inv, lku, itp, itr, en, ext) (nI (wd b n false)) = some B' ∧ fX5_step (rf, mem, reg, inp, im, rq, rm, lr, gvn, size, len, pages, which, exA, exT, room, trn, cnt, kd, by_, fm, fs, fp, fd, ks, lb, ov) = some M' ∧ PF f e T ls b n a ((st, mem, iq, outs, gv, (-1)), (code, lenC, beh, siz, ser, exP, lnk, limit, blocks, filled, trl, fls, dead), rqq, lrq, exe, inv, lku, itp, itr, en, ext) (rf, mem, reg, inp, im, rq, rm, lr, gvn, size, len, pages, which, exA, exT, room, trn, cnt, kd, by_, fm, fs, fp, fd, ks, lb, ov) B' M' := by
  have hG : GR f st reg := h.g
  have hs1 : BI st := h.bs
  have hr1 : BI reg := h.br
  have hMB : ∀ i, isB (mem i) := h.mb
  have c10 : cnt 10 = gv := h.c10
  obtain ⟨gn, hgn, hgv⟩ := h.gv
  have hgv : gv = nI gn := hgv
  obtain ⟨st', reg', x1, x2, x3, x4, x5, x6⟩ := sim_17 (rf := rf) (inp := inp) (im := im) (rq := rq) (rm := rm) (lr := lr) (gvn := gvn) (size := size) (len := len) (pages := pages) (which := which) (exA := exA) (exT := exT) (room := room) (trn := trn) (cnt := cnt) (kd := kd) (by_ := by_) (fm := fm) (fs := fs) (fp := fp) (fd := fd) (ks := ks) (lb := lb) (ov := ov) (iq := iq) (outs := outs) (gv := gv) (wr := -1) ha hb hn hG hs1 hr1 h9 hma hMB h2 hne hk
  exact perf_nw h hb hn x1 x2 x3 x4 x5 x6 h.q h.qb h.o ⟨gn, by omega, hgv⟩ pk_us ((pk_un (by omega)).trans c10) ((pk_un (by omega)).trans (if_neg (by omega)).symm) (fun i i0 _ _ => pk_un i0) (if_neg (by omega)).symm
set_option maxRecDepth 20000 in
theorem perf_21 {mem reg inp rq gvn size len pages which exA exT cnt ks : Nat → Int32} {rf im rm lr room trn kd by_ fm fs fp fd lb ov : Int32} {st outs code lenC beh siz ser exP lnk : Nat → Int32} {iq rqq : TQ} {gv limit blocks filled trl fls dead lrq exe inv lku itp itr en ext : Int32} {f : Bool} {e T a b n : Nat} {ls : Nat → List (Nat × Nat)} (h : RS f e T ls ((st, mem, iq, outs, gv, (-1)), (code, lenC, beh, siz, ser, exP, lnk, limit, blocks, filled, trl, fls, dead), rqq, lrq, exe, inv, lku, itp, itr, en, ext) (rf, mem, reg, inp, im, rq, rm, lr, gvn, size, len, pages, which, exA, exT, room, trn, cnt, kd, by_, fm, fs, fp, fd, ks, lb, ov)) (he : e < 2 ^ 30) (ha : a < 256) (hb : b < 256) (hn : n < 256) (h9 : reg 9 = nI a) (hma : mem a = nI b) (h2 : bytB b = 2 → mem ((a + 1) % 256) = nI n) (hne : neeB b = true → f = true) (hk : kC b = 21) : ∃ B' M', fX4_perform ((st, mem, iq, outs, gv, (-1)), (code, lenC, beh, siz, ser, exP, lnk, limit, blocks, filled, trl, fls, dead), rqq, lrq, exe, inv, lku, itp, itr, en, ext) (nI (wd b n false)) = some B' ∧ fX5_step (rf, mem, reg, inp, im, rq, rm, lr, gvn, size, len, pages, which, exA, exT, room, trn, cnt, kd, by_, fm, fs, fp, fd, ks, lb, ov) = some M' ∧ PF f e T ls b n a ((st, mem, iq, outs, gv, (-1)), (code, lenC, beh, siz, ser, exP, lnk, limit, blocks, filled, trl, fls, dead), rqq, lrq, exe, inv, lku, itp, itr, en, ext) (rf, mem, reg, inp, im, rq, rm, lr, gvn, size, len, pages, which, exA, exT, room, trn, cnt, kd, by_, fm, fs, fp, fd, ks, lb, ov) B' M' := by
  have hG : GR f st reg := h.g
  have hs1 : BI st := h.bs
  have hr1 : BI reg := h.br
  have hMB : ∀ i, isB (mem i) := h.mb
  have c10 : cnt 10 = gv := h.c10
  obtain ⟨gn, hgn, hgv⟩ := h.gv
  have hgv : gv = nI gn := hgv
  obtain ⟨st', reg', x1, x2, x3, x4, x5, x6⟩ := sim_21 (rf := rf) (inp := inp) (im := im) (rq := rq) (rm := rm) (lr := lr) (gvn := gvn) (size := size) (len := len) (pages := pages) (which := which) (exA := exA) (exT := exT) (room := room) (trn := trn) (cnt := cnt) (kd := kd) (by_ := by_) (fm := fm) (fs := fs) (fp := fp) (fd := fd) (ks := ks) (lb := lb) (ov := ov) (iq := iq) (outs := outs) (gv := gv) (wr := -1) ha hb hn hG hs1 hr1 h9 hma hMB h2 hne hk
  exact perf_nw h hb hn x1 x2 x3 x4 x5 x6 h.q h.qb h.o ⟨gn, by omega, hgv⟩ pk_us ((pk_un (by omega)).trans c10) ((pk_un (by omega)).trans (if_neg (by omega)).symm) (fun i i0 _ _ => pk_un i0) (if_neg (by omega)).symm
set_option maxRecDepth 20000 in
theorem perf_23 {mem reg inp rq gvn size len pages which exA exT cnt ks : Nat → Int32} {rf im rm lr room trn kd by_ fm fs fp fd lb ov : Int32} {st outs code lenC beh siz ser exP lnk : Nat → Int32} {iq rqq : TQ} {gv limit blocks filled trl fls dead lrq exe inv lku itp itr en ext : Int32} {f : Bool} {e T a b n : Nat} {ls : Nat → List (Nat × Nat)} (h : RS f e T ls ((st, mem, iq, outs, gv, (-1)), (code, lenC, beh, siz, ser, exP, lnk, limit, blocks, filled, trl, fls, dead), rqq, lrq, exe, inv, lku, itp, itr, en, ext) (rf, mem, reg, inp, im, rq, rm, lr, gvn, size, len, pages, which, exA, exT, room, trn, cnt, kd, by_, fm, fs, fp, fd, ks, lb, ov)) (he : e < 2 ^ 30) (ha : a < 256) (hb : b < 256) (hn : n < 256) (h9 : reg 9 = nI a) (hma : mem a = nI b) (h2 : bytB b = 2 → mem ((a + 1) % 256) = nI n) (hne : neeB b = true → f = true) (hk : kC b = 23) : ∃ B' M', fX4_perform ((st, mem, iq, outs, gv, (-1)), (code, lenC, beh, siz, ser, exP, lnk, limit, blocks, filled, trl, fls, dead), rqq, lrq, exe, inv, lku, itp, itr, en, ext) (nI (wd b n false)) = some B' ∧ fX5_step (rf, mem, reg, inp, im, rq, rm, lr, gvn, size, len, pages, which, exA, exT, room, trn, cnt, kd, by_, fm, fs, fp, fd, ks, lb, ov) = some M' ∧ PF f e T ls b n a ((st, mem, iq, outs, gv, (-1)), (code, lenC, beh, siz, ser, exP, lnk, limit, blocks, filled, trl, fls, dead), rqq, lrq, exe, inv, lku, itp, itr, en, ext) (rf, mem, reg, inp, im, rq, rm, lr, gvn, size, len, pages, which, exA, exT, room, trn, cnt, kd, by_, fm, fs, fp, fd, ks, lb, ov) B' M' := by
  have hG : GR f st reg := h.g
  have hs1 : BI st := h.bs
  have hr1 : BI reg := h.br
  have hMB : ∀ i, isB (mem i) := h.mb
  have c10 : cnt 10 = gv := h.c10
  obtain ⟨gn, hgn, hgv⟩ := h.gv
  have hgv : gv = nI gn := hgv
  obtain ⟨st', reg', x1, x2, x3, x4, x5, x6⟩ := sim_23 (rf := rf) (inp := inp) (im := im) (rq := rq) (rm := rm) (lr := lr) (gvn := gvn) (size := size) (len := len) (pages := pages) (which := which) (exA := exA) (exT := exT) (room := room) (trn := trn) (cnt := cnt) (kd := kd) (by_ := by_) (fm := fm) (fs := fs) (fp := fp) (fd := fd) (ks := ks) (lb := lb) (ov := ov) (iq := iq) (outs := outs) (gv := gv) (wr := -1) ha hb hn hG hs1 hr1 h9 hma hMB h2 hne hk
  exact perf_nw h hb hn x1 x2 x3 x4 x5 x6 h.q h.qb h.o ⟨gn, by omega, hgv⟩ pk_us ((pk_un (by omega)).trans c10) ((pk_un (by omega)).trans (if_neg (by omega)).symm) (fun i i0 _ _ => pk_un i0) (if_neg (by omega)).symm
set_option maxRecDepth 20000 in
theorem perf_26 {mem reg inp rq gvn size len pages which exA exT cnt ks : Nat → Int32} {rf im rm lr room trn kd by_ fm fs fp fd lb ov : Int32} {st outs code lenC beh siz ser exP lnk : Nat → Int32} {iq rqq : TQ} {gv limit blocks filled trl fls dead lrq exe inv lku itp itr en ext : Int32} {f : Bool} {e T a b n : Nat} {ls : Nat → List (Nat × Nat)} (h : RS f e T ls ((st, mem, iq, outs, gv, (-1)), (code, lenC, beh, siz, ser, exP, lnk, limit, blocks, filled, trl, fls, dead), rqq, lrq, exe, inv, lku, itp, itr, en, ext) (rf, mem, reg, inp, im, rq, rm, lr, gvn, size, len, pages, which, exA, exT, room, trn, cnt, kd, by_, fm, fs, fp, fd, ks, lb, ov)) (he : e < 2 ^ 30) (ha : a < 256) (hb : b < 256) (hn : n < 256) (h9 : reg 9 = nI a) (hma : mem a = nI b) (h2 : bytB b = 2 → mem ((a + 1) % 256) = nI n) (hne : neeB b = true → f = true) (hk : kC b = 26) : ∃ B' M', fX4_perform ((st, mem, iq, outs, gv, (-1)), (code, lenC, beh, siz, ser, exP, lnk, limit, blocks, filled, trl, fls, dead), rqq, lrq, exe, inv, lku, itp, itr, en, ext) (nI (wd b n false)) = some B' ∧ fX5_step (rf, mem, reg, inp, im, rq, rm, lr, gvn, size, len, pages, which, exA, exT, room, trn, cnt, kd, by_, fm, fs, fp, fd, ks, lb, ov) = some M' ∧ PF f e T ls b n a ((st, mem, iq, outs, gv, (-1)), (code, lenC, beh, siz, ser, exP, lnk, limit, blocks, filled, trl, fls, dead), rqq, lrq, exe, inv, lku, itp, itr, en, ext) (rf, mem, reg, inp, im, rq, rm, lr, gvn, size, len, pages, which, exA, exT, room, trn, cnt, kd, by_, fm, fs, fp, fd, ks, lb, ov) B' M' := by
  have hG : GR f st reg := h.g
  have hs1 : BI st := h.bs
  have hr1 : BI reg := h.br
  have hMB : ∀ i, isB (mem i) := h.mb
  have c10 : cnt 10 = gv := h.c10
  obtain ⟨gn, hgn, hgv⟩ := h.gv
  have hgv : gv = nI gn := hgv
  obtain ⟨st', reg', x1, x2, x3, x4, x5, x6⟩ := sim_26 (rf := rf) (inp := inp) (im := im) (rq := rq) (rm := rm) (lr := lr) (gvn := gvn) (size := size) (len := len) (pages := pages) (which := which) (exA := exA) (exT := exT) (room := room) (trn := trn) (cnt := cnt) (kd := kd) (by_ := by_) (fm := fm) (fs := fs) (fp := fp) (fd := fd) (ks := ks) (lb := lb) (ov := ov) (iq := iq) (outs := outs) (gv := gv) (wr := -1) ha hb hn hG hs1 hr1 h9 hma hMB h2 hne hk
  exact perf_nw h hb hn x1 x2 x3 x4 x5 x6 h.q h.qb h.o ⟨gn, by omega, hgv⟩ pk_us ((pk_un (by omega)).trans c10) ((pk_un (by omega)).trans (if_neg (by omega)).symm) (fun i i0 _ _ => pk_un i0) (if_neg (by omega)).symm
set_option maxRecDepth 20000 in
theorem perf_28 {mem reg inp rq gvn size len pages which exA exT cnt ks : Nat → Int32} {rf im rm lr room trn kd by_ fm fs fp fd lb ov : Int32} {st outs code lenC beh siz ser exP lnk : Nat → Int32} {iq rqq : TQ} {gv limit blocks filled trl fls dead lrq exe inv lku itp itr en ext : Int32} {f : Bool} {e T a b n : Nat} {ls : Nat → List (Nat × Nat)} (h : RS f e T ls ((st, mem, iq, outs, gv, (-1)), (code, lenC, beh, siz, ser, exP, lnk, limit, blocks, filled, trl, fls, dead), rqq, lrq, exe, inv, lku, itp, itr, en, ext) (rf, mem, reg, inp, im, rq, rm, lr, gvn, size, len, pages, which, exA, exT, room, trn, cnt, kd, by_, fm, fs, fp, fd, ks, lb, ov)) (he : e < 2 ^ 30) (ha : a < 256) (hb : b < 256) (hn : n < 256) (h9 : reg 9 = nI a) (hma : mem a = nI b) (h2 : bytB b = 2 → mem ((a + 1) % 256) = nI n) (hne : neeB b = true → f = true) (hk : kC b = 28) : ∃ B' M', fX4_perform ((st, mem, iq, outs, gv, (-1)), (code, lenC, beh, siz, ser, exP, lnk, limit, blocks, filled, trl, fls, dead), rqq, lrq, exe, inv, lku, itp, itr, en, ext) (nI (wd b n false)) = some B' ∧ fX5_step (rf, mem, reg, inp, im, rq, rm, lr, gvn, size, len, pages, which, exA, exT, room, trn, cnt, kd, by_, fm, fs, fp, fd, ks, lb, ov) = some M' ∧ PF f e T ls b n a ((st, mem, iq, outs, gv, (-1)), (code, lenC, beh, siz, ser, exP, lnk, limit, blocks, filled, trl, fls, dead), rqq, lrq, exe, inv, lku, itp, itr, en, ext) (rf, mem, reg, inp, im, rq, rm, lr, gvn, size, len, pages, which, exA, exT, room, trn, cnt, kd, by_, fm, fs, fp, fd, ks, lb, ov) B' M' := by
  have hG : GR f st reg := h.g
  have hs1 : BI st := h.bs
  have hr1 : BI reg := h.br
  have hMB : ∀ i, isB (mem i) := h.mb
  have c10 : cnt 10 = gv := h.c10
  obtain ⟨gn, hgn, hgv⟩ := h.gv
  have hgv : gv = nI gn := hgv
  obtain ⟨st', reg', x1, x2, x3, x4, x5, x6⟩ := sim_28 (rf := rf) (inp := inp) (im := im) (rq := rq) (rm := rm) (lr := lr) (gvn := gvn) (size := size) (len := len) (pages := pages) (which := which) (exA := exA) (exT := exT) (room := room) (trn := trn) (cnt := cnt) (kd := kd) (by_ := by_) (fm := fm) (fs := fs) (fp := fp) (fd := fd) (ks := ks) (lb := lb) (ov := ov) (iq := iq) (outs := outs) (gv := gv) (wr := -1) ha hb hn hG hs1 hr1 h9 hma hMB h2 hne hk
  exact perf_nw h hb hn x1 x2 x3 x4 x5 x6 h.q h.qb h.o ⟨gn, by omega, hgv⟩ pk_us ((pk_un (by omega)).trans c10) ((pk_un (by omega)).trans (if_neg (by omega)).symm) (fun i i0 _ _ => pk_un i0) (if_neg (by omega)).symm
set_option maxRecDepth 20000 in
theorem perf_29 {mem reg inp rq gvn size len pages which exA exT cnt ks : Nat → Int32} {rf im rm lr room trn kd by_ fm fs fp fd lb ov : Int32} {st outs code lenC beh siz ser exP lnk : Nat → Int32} {iq rqq : TQ} {gv limit blocks filled trl fls dead lrq exe inv lku itp itr en ext : Int32} {f : Bool} {e T a b n : Nat} {ls : Nat → List (Nat × Nat)} (h : RS f e T ls ((st, mem, iq, outs, gv, (-1)), (code, lenC, beh, siz, ser, exP, lnk, limit, blocks, filled, trl, fls, dead), rqq, lrq, exe, inv, lku, itp, itr, en, ext) (rf, mem, reg, inp, im, rq, rm, lr, gvn, size, len, pages, which, exA, exT, room, trn, cnt, kd, by_, fm, fs, fp, fd, ks, lb, ov)) (he : e < 2 ^ 30) (ha : a < 256) (hb : b < 256) (hn : n < 256) (h9 : reg 9 = nI a) (hma : mem a = nI b) (h2 : bytB b = 2 → mem ((a + 1) % 256) = nI n) (hne : neeB b = true → f = true) (hk : kC b = 29) : ∃ B' M', fX4_perform ((st, mem, iq, outs, gv, (-1)), (code, lenC, beh, siz, ser, exP, lnk, limit, blocks, filled, trl, fls, dead), rqq, lrq, exe, inv, lku, itp, itr, en, ext) (nI (wd b n false)) = some B' ∧ fX5_step (rf, mem, reg, inp, im, rq, rm, lr, gvn, size, len, pages, which, exA, exT, room, trn, cnt, kd, by_, fm, fs, fp, fd, ks, lb, ov) = some M' ∧ PF f e T ls b n a ((st, mem, iq, outs, gv, (-1)), (code, lenC, beh, siz, ser, exP, lnk, limit, blocks, filled, trl, fls, dead), rqq, lrq, exe, inv, lku, itp, itr, en, ext) (rf, mem, reg, inp, im, rq, rm, lr, gvn, size, len, pages, which, exA, exT, room, trn, cnt, kd, by_, fm, fs, fp, fd, ks, lb, ov) B' M' := by
  have hG : GR f st reg := h.g
  have hs1 : BI st := h.bs
  have hr1 : BI reg := h.br
  have hMB : ∀ i, isB (mem i) := h.mb
  have c10 : cnt 10 = gv := h.c10
  obtain ⟨gn, hgn, hgv⟩ := h.gv
  have hgv : gv = nI gn := hgv
  obtain ⟨st', reg', x1, x2, x3, x4, x5, x6⟩ := sim_29 (rf := rf) (inp := inp) (im := im) (rq := rq) (rm := rm) (lr := lr) (gvn := gvn) (size := size) (len := len) (pages := pages) (which := which) (exA := exA) (exT := exT) (room := room) (trn := trn) (cnt := cnt) (kd := kd) (by_ := by_) (fm := fm) (fs := fs) (fp := fp) (fd := fd) (ks := ks) (lb := lb) (ov := ov) (iq := iq) (outs := outs) (gv := gv) (wr := -1) ha hb hn hG hs1 hr1 h9 hma hMB h2 hne hk
  exact perf_nw h hb hn x1 x2 x3 x4 x5 x6 h.q h.qb h.o ⟨gn, by omega, hgv⟩ pk_us ((pk_un (by omega)).trans c10) ((pk_un (by omega)).trans (if_neg (by omega)).symm) (fun i i0 _ _ => pk_un i0) (if_neg (by omega)).symm
set_option maxRecDepth 20000 in
theorem perf_24 {mem reg inp rq gvn size len pages which exA exT cnt ks : Nat → Int32} {rf im rm lr room trn kd by_ fm fs fp fd lb ov : Int32} {st outs code lenC beh siz ser exP lnk : Nat → Int32} {iq rqq : TQ} {gv limit blocks filled trl fls dead lrq exe inv lku itp itr en ext : Int32} {f : Bool} {e T a b n : Nat} {ls : Nat → List (Nat × Nat)} (h : RS f e T ls ((st, mem, iq, outs, gv, (-1)), (code, lenC, beh, siz, ser, exP, lnk, limit, blocks, filled, trl, fls, dead), rqq, lrq, exe, inv, lku, itp, itr, en, ext) (rf, mem, reg, inp, im, rq, rm, lr, gvn, size, len, pages, which, exA, exT, room, trn, cnt, kd, by_, fm, fs, fp, fd, ks, lb, ov)) (he : e < 2 ^ 30) (ha : a < 256) (hb : b < 256) (hn : n < 256) (h9 : reg 9 = nI a) (hma : mem a = nI b) (h2 : bytB b = 2 → mem ((a + 1) % 256) = nI n) (hne : neeB b = true → f = true) (hk : kC b = 24) : ∃ B' M', fX4_perform ((st, mem, iq, outs, gv, (-1)), (code, lenC, beh, siz, ser, exP, lnk, limit, blocks, filled, trl, fls, dead), rqq, lrq, exe, inv, lku, itp, itr, en, ext) (nI (wd b n false)) = some B' ∧ fX5_step (rf, mem, reg, inp, im, rq, rm, lr, gvn, size, len, pages, which, exA, exT, room, trn, cnt, kd, by_, fm, fs, fp, fd, ks, lb, ov) = some M' ∧ PF f e T ls b n a ((st, mem, iq, outs, gv, (-1)), (code, lenC, beh, siz, ser, exP, lnk, limit, blocks, filled, trl, fls, dead), rqq, lrq, exe, inv, lku, itp, itr, en, ext) (rf, mem, reg, inp, im, rq, rm, lr, gvn, size, len, pages, which, exA, exT, room, trn, cnt, kd, by_, fm, fs, fp, fd, ks, lb, ov) B' M' := by
  have hG : GR f st reg := h.g
  have hs1 : BI st := h.bs
  have hr1 : BI reg := h.br
  have hMB : ∀ i, isB (mem i) := h.mb
  have c10 : cnt 10 = gv := h.c10
  obtain ⟨gn, hgn, hgv⟩ := h.gv
  have hgv : gv = nI gn := hgv
  have hw := (t_kinds b hb).2.2.2 hk
  rcases (show b % 16 = 1 ∨ b % 16 = 2 ∨ b % 16 = 3 ∨ b % 16 = 4 ∨ b % 16 = 5 ∨ b % 16 = 6 by omega) with w | w | w | w | w | w
  · obtain ⟨st', reg', x1, x2, x3, x4, x5, x6⟩ := sim_24_1 (rf := rf) (inp := inp) (im := im) (rq := rq) (rm := rm) (lr := lr) (gvn := gvn) (size := size) (len := len) (pages := pages) (which := which) (exA := exA) (exT := exT) (room := room) (trn := trn) (cnt := cnt) (kd := kd) (by_ := by_) (fm := fm) (fs := fs) (fp := fp) (fd := fd) (ks := ks) (lb := lb) (ov := ov) (iq := iq) (outs := outs) (gv := gv) (wr := -1) ha hb hn hG hs1 hr1 h9 hma hMB h2 hne hk w
    exact perf_nw h hb hn x1 x2 x3 x4 x5 x6 h.q h.qb h.o ⟨gn, by omega, hgv⟩ pk_us ((pk_un (by omega)).trans c10) ((pk_un (by omega)).trans (if_neg (by omega)).symm) (fun i i0 _ _ => pk_un i0) (if_neg (by omega)).symm
  · obtain ⟨st', reg', x1, x2, x3, x4, x5, x6⟩ := sim_24_2 (rf := rf) (inp := inp) (im := im) (rq := rq) (rm := rm) (lr := lr) (gvn := gvn) (size := size) (len := len) (pages := pages) (which := which) (exA := exA) (exT := exT) (room := room) (trn := trn) (cnt := cnt) (kd := kd) (by_ := by_) (fm := fm) (fs := fs) (fp := fp) (fd := fd) (ks := ks) (lb := lb) (ov := ov) (iq := iq) (outs := outs) (gv := gv) (wr := -1) ha hb hn hG hs1 hr1 h9 hma hMB h2 hne hk w
    exact perf_nw h hb hn x1 x2 x3 x4 x5 x6 h.q h.qb h.o ⟨gn, by omega, hgv⟩ pk_us ((pk_un (by omega)).trans c10) ((pk_un (by omega)).trans (if_neg (by omega)).symm) (fun i i0 _ _ => pk_un i0) (if_neg (by omega)).symm
  · obtain ⟨st', reg', x1, x2, x3, x4, x5, x6⟩ := sim_24_3 (rf := rf) (inp := inp) (im := im) (rq := rq) (rm := rm) (lr := lr) (gvn := gvn) (size := size) (len := len) (pages := pages) (which := which) (exA := exA) (exT := exT) (room := room) (trn := trn) (cnt := cnt) (kd := kd) (by_ := by_) (fm := fm) (fs := fs) (fp := fp) (fd := fd) (ks := ks) (lb := lb) (ov := ov) (iq := iq) (outs := outs) (gv := gv) (wr := -1) ha hb hn hG hs1 hr1 h9 hma hMB h2 hne hk w
    exact perf_nw h hb hn x1 x2 x3 x4 x5 x6 h.q h.qb h.o ⟨gn, by omega, hgv⟩ pk_us ((pk_un (by omega)).trans c10) ((pk_un (by omega)).trans (if_neg (by omega)).symm) (fun i i0 _ _ => pk_un i0) (if_neg (by omega)).symm
  · obtain ⟨st', reg', x1, x2, x3, x4, x5, x6⟩ := sim_24_4 (rf := rf) (inp := inp) (im := im) (rq := rq) (rm := rm) (lr := lr) (gvn := gvn) (size := size) (len := len) (pages := pages) (which := which) (exA := exA) (exT := exT) (room := room) (trn := trn) (cnt := cnt) (kd := kd) (by_ := by_) (fm := fm) (fs := fs) (fp := fp) (fd := fd) (ks := ks) (lb := lb) (ov := ov) (iq := iq) (outs := outs) (gv := gv) (wr := -1) ha hb hn hG hs1 hr1 h9 hma hMB h2 hne hk w
    exact perf_nw h hb hn x1 x2 x3 x4 x5 x6 h.q h.qb h.o ⟨gn, by omega, hgv⟩ pk_us ((pk_un (by omega)).trans c10) ((pk_un (by omega)).trans (if_neg (by omega)).symm) (fun i i0 _ _ => pk_un i0) (if_neg (by omega)).symm
  · obtain ⟨st', reg', x1, x2, x3, x4, x5, x6⟩ := sim_24_5 (rf := rf) (inp := inp) (im := im) (rq := rq) (rm := rm) (lr := lr) (gvn := gvn) (size := size) (len := len) (pages := pages) (which := which) (exA := exA) (exT := exT) (room := room) (trn := trn) (cnt := cnt) (kd := kd) (by_ := by_) (fm := fm) (fs := fs) (fp := fp) (fd := fd) (ks := ks) (lb := lb) (ov := ov) (iq := iq) (outs := outs) (gv := gv) (wr := -1) ha hb hn hG hs1 hr1 h9 hma hMB h2 hne hk w
    exact perf_nw h hb hn x1 x2 x3 x4 x5 x6 h.q h.qb h.o ⟨gn, by omega, hgv⟩ pk_us ((pk_un (by omega)).trans c10) ((pk_un (by omega)).trans (if_neg (by omega)).symm) (fun i i0 _ _ => pk_un i0) (if_neg (by omega)).symm
  · obtain ⟨st', reg', x1, x2, x3, x4, x5, x6⟩ := sim_24_6 (rf := rf) (inp := inp) (im := im) (rq := rq) (rm := rm) (lr := lr) (gvn := gvn) (size := size) (len := len) (pages := pages) (which := which) (exA := exA) (exT := exT) (room := room) (trn := trn) (cnt := cnt) (kd := kd) (by_ := by_) (fm := fm) (fs := fs) (fp := fp) (fd := fd) (ks := ks) (lb := lb) (ov := ov) (iq := iq) (outs := outs) (gv := gv) (wr := -1) ha hb hn hG hs1 hr1 h9 hma hMB h2 hne hk w
    exact perf_nw h hb hn x1 x2 x3 x4 x5 x6 h.q h.qb h.o ⟨gn, by omega, hgv⟩ pk_us ((pk_un (by omega)).trans c10) ((pk_un (by omega)).trans (if_neg (by omega)).symm) (fun i i0 _ _ => pk_un i0) (if_neg (by omega)).symm
set_option maxRecDepth 20000 in
theorem perf_1 {mem reg inp rq gvn size len pages which exA exT cnt ks : Nat → Int32} {rf im rm lr room trn kd by_ fm fs fp fd lb ov : Int32} {st outs code lenC beh siz ser exP lnk : Nat → Int32} {iq rqq : TQ} {gv limit blocks filled trl fls dead lrq exe inv lku itp itr en ext : Int32} {f : Bool} {e T a b n : Nat} {ls : Nat → List (Nat × Nat)} (h : RS f e T ls ((st, mem, iq, outs, gv, (-1)), (code, lenC, beh, siz, ser, exP, lnk, limit, blocks, filled, trl, fls, dead), rqq, lrq, exe, inv, lku, itp, itr, en, ext) (rf, mem, reg, inp, im, rq, rm, lr, gvn, size, len, pages, which, exA, exT, room, trn, cnt, kd, by_, fm, fs, fp, fd, ks, lb, ov)) (he : e < 2 ^ 30) (ha : a < 256) (hb : b < 256) (hn : n < 256) (h9 : reg 9 = nI a) (hma : mem a = nI b) (h2 : bytB b = 2 → mem ((a + 1) % 256) = nI n) (hne : neeB b = true → f = true) (hk : kC b = 1) : ∃ B' M', fX4_perform ((st, mem, iq, outs, gv, (-1)), (code, lenC, beh, siz, ser, exP, lnk, limit, blocks, filled, trl, fls, dead), rqq, lrq, exe, inv, lku, itp, itr, en, ext) (nI (wd b n false)) = some B' ∧ fX5_step (rf, mem, reg, inp, im, rq, rm, lr, gvn, size, len, pages, which, exA, exT, room, trn, cnt, kd, by_, fm, fs, fp, fd, ks, lb, ov) = some M' ∧ PF f e T ls b n a ((st, mem, iq, outs, gv, (-1)), (code, lenC, beh, siz, ser, exP, lnk, limit, blocks, filled, trl, fls, dead), rqq, lrq, exe, inv, lku, itp, itr, en, ext) (rf, mem, reg, inp, im, rq, rm, lr, gvn, size, len, pages, which, exA, exT, room, trn, cnt, kd, by_, fm, fs, fp, fd, ks, lb, ov) B' M' := by
  have hG : GR f st reg := h.g
  have hs1 : BI st := h.bs
  have hr1 : BI reg := h.br
  have hMB : ∀ i, isB (mem i) := h.mb
  have c10 : cnt 10 = gv := h.c10
  obtain ⟨gn, hgn, hgv⟩ := h.gv
  have hgv : gv = nI gn := hgv
  obtain ⟨st', reg', x1, x2, x3, x4, x5, x6⟩ := sim_1 (rf := rf) (inp := inp) (im := im) (rq := rq) (rm := rm) (lr := lr) (gvn := gvn) (size := size) (len := len) (pages := pages) (which := which) (exA := exA) (exT := exT) (room := room) (trn := trn) (cnt := cnt) (kd := kd) (by_ := by_) (fm := fm) (fs := fs) (fp := fp) (fd := fd) (ks := ks) (lb := lb) (ov := ov) (iq := iq) (outs := outs) (gv := gv) (wr := -1) ha hb hn hG hs1 hr1 h9 hma hMB h2 hne hk
  exact perf_nw h hb hn x1 x2 x3 x4 x5 x6 h.q h.qb h.o ⟨gn, by omega, hgv⟩ ((pk_un (by omega)).trans pk_us) ((pk_un (by omega)).trans ((pk_un (by omega)).trans c10)) (pk_us.trans (if_pos hk).symm) (fun i i0 _ i11 => (pk_un i11).trans (pk_un i0)) (if_pos hk).symm
set_option maxRecDepth 20000 in
theorem perf_2 {mem reg inp rq gvn size len pages which exA exT cnt ks : Nat → Int32} {rf im rm lr room trn kd by_ fm fs fp fd lb ov : Int32} {st outs code lenC beh siz ser exP lnk : Nat → Int32} {iq rqq : TQ} {gv limit blocks filled trl fls dead lrq exe inv lku itp itr en ext : Int32} {f : Bool} {e T a b n : Nat} {ls : Nat → List (Nat × Nat)} (h : RS f e T ls ((st, mem, iq, outs, gv, (-1)), (code, lenC, beh, siz, ser, exP, lnk, limit, blocks, filled, trl, fls, dead), rqq, lrq, exe, inv, lku, itp, itr, en, ext) (rf, mem, reg, inp, im, rq, rm, lr, gvn, size, len, pages, which, exA, exT, room, trn, cnt, kd, by_, fm, fs, fp, fd, ks, lb, ov)) (he : e < 2 ^ 30) (ha : a < 256) (hb : b < 256) (hn : n < 256) (h9 : reg 9 = nI a) (hma : mem a = nI b) (h2 : bytB b = 2 → mem ((a + 1) % 256) = nI n) (hne : neeB b = true → f = true) (hk : kC b = 2) : ∃ B' M', fX4_perform ((st, mem, iq, outs, gv, (-1)), (code, lenC, beh, siz, ser, exP, lnk, limit, blocks, filled, trl, fls, dead), rqq, lrq, exe, inv, lku, itp, itr, en, ext) (nI (wd b n false)) = some B' ∧ fX5_step (rf, mem, reg, inp, im, rq, rm, lr, gvn, size, len, pages, which, exA, exT, room, trn, cnt, kd, by_, fm, fs, fp, fd, ks, lb, ov) = some M' ∧ PF f e T ls b n a ((st, mem, iq, outs, gv, (-1)), (code, lenC, beh, siz, ser, exP, lnk, limit, blocks, filled, trl, fls, dead), rqq, lrq, exe, inv, lku, itp, itr, en, ext) (rf, mem, reg, inp, im, rq, rm, lr, gvn, size, len, pages, which, exA, exT, room, trn, cnt, kd, by_, fm, fs, fp, fd, ks, lb, ov) B' M' := by
  have hG : GR f st reg := h.g
  have hs1 : BI st := h.bs
  have hr1 : BI reg := h.br
  have hMB : ∀ i, isB (mem i) := h.mb
  have c10 : cnt 10 = gv := h.c10
  obtain ⟨gn, hgn, hgv⟩ := h.gv
  have hgv : gv = nI gn := hgv
  have hkM : kM b = 2 := by rw [(t_kinds b hb).1, hk]; rfl
  have hB : bytB b = 1 := by unfold bytB; rw [hk]; decide
  obtain ⟨d, hde⟩ : ∃ d, b / 4 % 4 = d := ⟨_, rfl⟩
  obtain ⟨s, hse⟩ : ∃ s, b % 4 = s := ⟨_, rfl⟩
  have hd : d < 4 := by omega
  have hs : s < 4 := by omega
  have sd : st d = reg d := hG.1 d (by omega) (by omega) (by omega)
  have ss : st s = reg s := hG.1 s (by omega) (by omega) (by omega)
  have s4 : st 4 = reg 4 := hG.1 4 (by omega) (by omega) (by omega)
  have s0 : st 0 = reg 0 := hG.1 0 (by omega) (by omega) (by omega)
  have s9 : st 9 = nI a := (hG.1 9 (by omega) (by omega) (by omega)).trans h9
  obtain ⟨n', hn', en'⟩ := hMB ((a + 1) % 256)
  have hpc : (nI a + 1) &&& 255 = nI ((a + 1) % 256) := by rw [nI_1, and255 (by omega)]
  have ho : outs = gvn := h.o
  by_cases hg : gn < 100
  · have hst := sp_2a (rf := rf) (inp := inp) (im := im) (rq := rq) (rm := rm) (lr := lr) (gvn := gvn) (size := size) (len := len) (pages := pages) (which := which) (exA := exA) (exT := exT) (room := room) (trn := trn) (cnt := cnt) (kd := kd) (by_ := by_) (fm := fm) (fs := fs) (fp := fp) (fd := fd) (ks := ks) (lb := lb) (ov := ov) ha hb hn' h9 hma en' hkM hB hde hse hg (c10.trans hgv)
    have hex := ex_2a (st := st) (mem := mem) (outs := outs) (iq := iq) (wr := -1) hb hn hk hde hse hg hgv
    rw [s9, hpc] at hex
    exact perf_nw h hb hn hex (by rw [hkM, hB]; exact hst) (hG.up 9 (nI ((a + 1) % 256))) (hs1.up (i := 9) (x := (nI ((a + 1) % 256))) (isB_lit (Nat.mod_lt _ (by omega))) (by omega)) (hr1.up (i := 9) (x := (nI ((a + 1) % 256))) (isB_lit (Nat.mod_lt _ (by omega))) (by omega)) (pcx_l (fun _ => by rw [hB, pk_us]) (by omega)) h.q h.qb (by rw [ho, s0]) ⟨gn + 1, by omega, nI_1 gn⟩ ((pk_un (by omega)).trans pk_us) pk_us ((pk_un (by omega)).trans ((pk_un (by omega)).trans (if_neg (by omega)).symm)) (fun i i0 i10 _ => (pk_un i10).trans (pk_un i0)) (if_neg (by omega)).symm
  · have hst := sp_2b (rf := rf) (inp := inp) (im := im) (rq := rq) (rm := rm) (lr := lr) (gvn := gvn) (size := size) (len := len) (pages := pages) (which := which) (exA := exA) (exT := exT) (room := room) (trn := trn) (cnt := cnt) (kd := kd) (by_ := by_) (fm := fm) (fs := fs) (fp := fp) (fd := fd) (ks := ks) (lb := lb) (ov := ov) ha hb hn' h9 hma en' hkM hB hde hse (by omega) (by omega) (c10.trans hgv)
    have hex := ex_2b (st := st) (mem := mem) (outs := outs) (iq := iq) (wr := -1) hb hn hk hde hse (by omega) (by omega) hgv
    rw [s9, hpc] at hex
    exact perf_nw h hb hn hex (by rw [hkM, hB]; exact hst) (hG.up 9 (nI ((a + 1) % 256))) (hs1.up (i := 9) (x := (nI ((a + 1) % 256))) (isB_lit (Nat.mod_lt _ (by omega))) (by omega)) (hr1.up (i := 9) (x := (nI ((a + 1) % 256))) (isB_lit (Nat.mod_lt _ (by omega))) (by omega)) (pcx_l (fun _ => by rw [hB, pk_us]) (by omega)) h.q h.qb ho ⟨gn + 1, by omega, nI_1 gn⟩ ((pk_un (by omega)).trans pk_us) pk_us ((pk_un (by omega)).trans ((pk_un (by omega)).trans (if_neg (by omega)).symm)) (fun i i0 i10 _ => (pk_un i10).trans (pk_un i0)) (if_neg (by omega)).symm
set_option maxRecDepth 20000 in
theorem perf_3 {mem reg inp rq gvn size len pages which exA exT cnt ks : Nat → Int32} {rf im rm lr room trn kd by_ fm fs fp fd lb ov : Int32} {st outs code lenC beh siz ser exP lnk : Nat → Int32} {iq rqq : TQ} {gv limit blocks filled trl fls dead lrq exe inv lku itp itr en ext : Int32} {f : Bool} {e T a b n : Nat} {ls : Nat → List (Nat × Nat)} (h : RS f e T ls ((st, mem, iq, outs, gv, (-1)), (code, lenC, beh, siz, ser, exP, lnk, limit, blocks, filled, trl, fls, dead), rqq, lrq, exe, inv, lku, itp, itr, en, ext) (rf, mem, reg, inp, im, rq, rm, lr, gvn, size, len, pages, which, exA, exT, room, trn, cnt, kd, by_, fm, fs, fp, fd, ks, lb, ov)) (he : e < 2 ^ 30) (ha : a < 256) (hb : b < 256) (hn : n < 256) (h9 : reg 9 = nI a) (hma : mem a = nI b) (h2 : bytB b = 2 → mem ((a + 1) % 256) = nI n) (hne : neeB b = true → f = true) (hk : kC b = 3) : ∃ B' M', fX4_perform ((st, mem, iq, outs, gv, (-1)), (code, lenC, beh, siz, ser, exP, lnk, limit, blocks, filled, trl, fls, dead), rqq, lrq, exe, inv, lku, itp, itr, en, ext) (nI (wd b n false)) = some B' ∧ fX5_step (rf, mem, reg, inp, im, rq, rm, lr, gvn, size, len, pages, which, exA, exT, room, trn, cnt, kd, by_, fm, fs, fp, fd, ks, lb, ov) = some M' ∧ PF f e T ls b n a ((st, mem, iq, outs, gv, (-1)), (code, lenC, beh, siz, ser, exP, lnk, limit, blocks, filled, trl, fls, dead), rqq, lrq, exe, inv, lku, itp, itr, en, ext) (rf, mem, reg, inp, im, rq, rm, lr, gvn, size, len, pages, which, exA, exT, room, trn, cnt, kd, by_, fm, fs, fp, fd, ks, lb, ov) B' M' := by
  have hG : GR f st reg := h.g
  have hs1 : BI st := h.bs
  have hr1 : BI reg := h.br
  have hMB : ∀ i, isB (mem i) := h.mb
  have c10 : cnt 10 = gv := h.c10
  obtain ⟨gn, hgn, hgv⟩ := h.gv
  have hgv : gv = nI gn := hgv
  have hkM : kM b = 3 := by rw [(t_kinds b hb).1, hk]; rfl
  have hB : bytB b = 1 := by unfold bytB; rw [hk]; decide
  obtain ⟨d, hde⟩ : ∃ d, b / 4 % 4 = d := ⟨_, rfl⟩
  obtain ⟨s, hse⟩ : ∃ s, b % 4 = s := ⟨_, rfl⟩
  have hd : d < 4 := by omega
  have hs : s < 4 := by omega
  have sd : st d = reg d := hG.1 d (by omega) (by omega) (by omega)
  have ss : st s = reg s := hG.1 s (by omega) (by omega) (by omega)
  have s4 : st 4 = reg 4 := hG.1 4 (by omega) (by omega) (by omega)
  have s0 : st 0 = reg 0 := hG.1 0 (by omega) (by omega) (by omega)
  have s9 : st 9 = nI a := (hG.1 9 (by omega) (by omega) (by omega)).trans h9
  obtain ⟨n', hn', en'⟩ := hMB ((a + 1) % 256)
  have hpc : (nI a + 1) &&& 255 = nI ((a + 1) % 256) := by rw [nI_1, and255 (by omega)]
  have hq : QR 32 iq inp im := h.q
  obtain ⟨k, hk32, hkm, qm⟩ : ∃ k, k ≤ 32 ∧ im = nI k ∧ gQ_many iq = nI k := by
    obtain ⟨s', k', a1, a2, a3, a4, a5, a6⟩ := hq
    exact ⟨k', a2, a5, a4⟩
  by_cases hk0 : k = 0
  · obtain ⟨inp', hrc, hsh⟩ := receive_e (v := (rf, mem, (upd reg 9 (nI ((a + 1) % 256))), inp, im, rq, rm, lr, gvn, size, len, pages, which, exA, exT, room, trn, (upd cnt 0 (cnt 0 + 1)), 3, 1, fm, fs, fp, fd, ks, lb, ov)) hk32 hkm
    rw [if_pos hk0] at hrc
    have hst := sp_3 (rf := rf) (inp := inp) (im := im) (rq := rq) (rm := rm) (lr := lr) (gvn := gvn) (size := size) (len := len) (pages := pages) (which := which) (exA := exA) (exT := exT) (room := room) (trn := trn) (cnt := cnt) (kd := kd) (by_ := by_) (fm := fm) (fs := fs) (fp := fp) (fd := fd) (ks := ks) (lb := lb) (ov := ov) ha hb hn' h9 hma en' hkM hB hde hse hrc
    have hex := ex_3a (st := st) (mem := mem) (outs := outs) (gv := gv) (wr := -1) hb hn hk hde hse (show gQ_many iq = 0 by rw [qm, hk0]; rfl)
    rw [s9, hpc] at hex
    exact perf_nw h hb hn hex (by rw [hkM, hB]; exact hst) ((hG.up 9 (nI ((a + 1) % 256))).up 0 0) ((hs1.up (i := 9) (x := (nI ((a + 1) % 256))) (isB_lit (Nat.mod_lt _ (by omega))) (by omega)).up (i := 0) (x := 0) (isF_B (Or.inl rfl)) (by omega)) ((hr1.up (i := 9) (x := (nI ((a + 1) % 256))) (isB_lit (Nat.mod_lt _ (by omega))) (by omega)).up (i := 0) (x := 0) (isF_B (Or.inl rfl)) (by omega)) (pcx_l (fun _ => by rw [hB]; exact (pk_un (by omega)).trans pk_us) (by omega)) (by obtain ⟨s', k', a1, a2, a3, a4, a5, a6⟩ := hq; exact ⟨s', k', a1, a2, a3, a4, by rw [hk0]; rw [hkm, hk0] at a5; exact a5, fun i hi => absurd hi (by have := nI_inj (a := k) (b := k') (by omega) (by omega) (hkm.symm.trans a5); omega)⟩) (fun k2 i a1 a2 a3 => by have e2 := nI_inj (by omega) (by omega) a2; rw [hsh i (by omega)]; exact h.qb k (i + 1) hk32 hkm (by omega)) h.o ⟨gn, by omega, hgv⟩ pk_us ((pk_un (by omega)).trans c10) ((pk_un (by omega)).trans (if_neg (by omega)).symm) (fun i i0 _ _ => pk_un i0) (if_neg (by omega)).symm
  · obtain ⟨inp', hrc, hsh⟩ := receive_e (v := (rf, mem, (upd reg 9 (nI ((a + 1) % 256))), inp, im, rq, rm, lr, gvn, size, len, pages, which, exA, exT, room, trn, (upd cnt 0 (cnt 0 + 1)), 3, 1, fm, fs, fp, fd, ks, lb, ov)) hk32 hkm
    rw [if_neg hk0] at hrc
    have hst := sp_3 (rf := rf) (inp := inp) (im := im) (rq := rq) (rm := rm) (lr := lr) (gvn := gvn) (size := size) (len := len) (pages := pages) (which := which) (exA := exA) (exT := exT) (room := room) (trn := trn) (cnt := cnt) (kd := kd) (by_ := by_) (fm := fm) (fs := fs) (fp := fp) (fd := fd) (ks := ks) (lb := lb) (ov := ov) ha hb hn' h9 hma en' hkM hB hde hse hrc
    obtain ⟨q', hq1, hq2⟩ := qr_take (by omega) (show QR 32 iq inp (nI k) by rw [← hkm]; exact hq) (by omega) (by omega)
    have hex := ex_3b (st := st) (mem := mem) (outs := outs) (gv := gv) (wr := -1) hb hn hk hde hse (show ¬ gQ_many iq = 0 by rw [qm]; exact fun z => hk0 (nI_inj (b := 0) (by omega) (by omega) z)) hq1
    rw [s9, hpc] at hex
    exact perf_nw h hb hn hex (by rw [hkM, hB]; exact hst) ((hG.up 9 (nI ((a + 1) % 256))).up 0 (inp 0)) ((hs1.up (i := 9) (x := (nI ((a + 1) % 256))) (isB_lit (Nat.mod_lt _ (by omega))) (by omega)).up (i := 0) (x := (inp 0)) (h.qb k 0 hk32 hkm (by omega)) (by omega)) ((hr1.up (i := 9) (x := (nI ((a + 1) % 256))) (isB_lit (Nat.mod_lt _ (by omega))) (by omega)).up (i := 0) (x := (inp 0)) (h.qb k 0 hk32 hkm (by omega)) (by omega)) (pcx_l (fun _ => by rw [hB]; exact (pk_un (by omega)).trans pk_us) (by omega)) (hq2 inp' hsh) (fun k2 i a1 a2 a3 => by have e2 := nI_inj (by omega) (by omega) a2; rw [hsh i (by omega)]; exact h.qb k (i + 1) hk32 hkm (by omega)) h.o ⟨gn, by omega, hgv⟩ pk_us ((pk_un (by omega)).trans c10) ((pk_un (by omega)).trans (if_neg (by omega)).symm) (fun i i0 _ _ => pk_un i0) (if_neg (by omega)).symm
set_option maxRecDepth 20000 in
theorem perf_22 {mem reg inp rq gvn size len pages which exA exT cnt ks : Nat → Int32} {rf im rm lr room trn kd by_ fm fs fp fd lb ov : Int32} {st outs code lenC beh siz ser exP lnk : Nat → Int32} {iq rqq : TQ} {gv limit blocks filled trl fls dead lrq exe inv lku itp itr en ext : Int32} {f : Bool} {e T a b n : Nat} {ls : Nat → List (Nat × Nat)} (h : RS f e T ls ((st, mem, iq, outs, gv, (-1)), (code, lenC, beh, siz, ser, exP, lnk, limit, blocks, filled, trl, fls, dead), rqq, lrq, exe, inv, lku, itp, itr, en, ext) (rf, mem, reg, inp, im, rq, rm, lr, gvn, size, len, pages, which, exA, exT, room, trn, cnt, kd, by_, fm, fs, fp, fd, ks, lb, ov)) (he : e < 2 ^ 30) (ha : a < 256) (hb : b < 256) (hn : n < 256) (h9 : reg 9 = nI a) (hma : mem a = nI b) (h2 : bytB b = 2 → mem ((a + 1) % 256) = nI n) (hne : neeB b = true → f = true) (hk : kC b = 22) : ∃ B' M', fX4_perform ((st, mem, iq, outs, gv, (-1)), (code, lenC, beh, siz, ser, exP, lnk, limit, blocks, filled, trl, fls, dead), rqq, lrq, exe, inv, lku, itp, itr, en, ext) (nI (wd b n false)) = some B' ∧ fX5_step (rf, mem, reg, inp, im, rq, rm, lr, gvn, size, len, pages, which, exA, exT, room, trn, cnt, kd, by_, fm, fs, fp, fd, ks, lb, ov) = some M' ∧ PF true e T ls b n a ((st, mem, iq, outs, gv, (-1)), (code, lenC, beh, siz, ser, exP, lnk, limit, blocks, filled, trl, fls, dead), rqq, lrq, exe, inv, lku, itp, itr, en, ext) (rf, mem, reg, inp, im, rq, rm, lr, gvn, size, len, pages, which, exA, exT, room, trn, cnt, kd, by_, fm, fs, fp, fd, ks, lb, ov) B' M' := by
  have hG : GR f st reg := h.g
  have hs1 : BI st := h.bs
  have hr1 : BI reg := h.br
  have hMB : ∀ i, isB (mem i) := h.mb
  have c10 : cnt 10 = gv := h.c10
  obtain ⟨gn, hgn, hgv⟩ := h.gv
  have hgv : gv = nI gn := hgv
  have hkM : kM b = 22 := by rw [(t_kinds b hb).1, hk]; rfl
  have hB : bytB b = 2 := by unfold bytB; rw [hk]; decide
  obtain ⟨d, hde⟩ : ∃ d, b / 4 % 4 = d := ⟨_, rfl⟩
  obtain ⟨s, hse⟩ : ∃ s, b % 4 = s := ⟨_, rfl⟩
  have hd : d < 4 := by omega
  have hs : s < 4 := by omega
  have sd : st d = reg d := hG.1 d (by omega) (by omega) (by omega)
  have ss : st s = reg s := hG.1 s (by omega) (by omega) (by omega)
  have s4 : st 4 = reg 4 := hG.1 4 (by omega) (by omega) (by omega)
  have s0 : st 0 = reg 0 := hG.1 0 (by omega) (by omega) (by omega)
  have s9 : st 9 = nI a := (hG.1 9 (by omega) (by omega) (by omega)).trans h9
  have hpc : (nI a + 2) &&& 255 = nI ((a + 2) % 256) := by rw [show (2 : Int32) = nI 2 from rfl, nI_add, and255 (by omega)]
  have hf : f = true := hne (by unfold neeB; rw [hk]; decide)
  subst hf
  have hpb : ∀ p, p < 256 → PB mem code lenC beh siz ser exP lnk size len pages which exA exT (ls p) T p := h.pb
  obtain ⟨ad, had, hae⟩ := isB_and (reg s + nI n)
  have hst := sp_22 (rf := rf) (inp := inp) (im := im) (rq := rq) (rm := rm) (lr := lr) (gvn := gvn) (size := size) (len := len) (pages := pages) (which := which) (exA := exA) (exT := exT) (room := room) (trn := trn) (cnt := cnt) (kd := kd) (by_ := by_) (fm := fm) (fs := fs) (fp := fp) (fd := fd) (ks := ks) (lb := lb) (ov := ov) ha hb hn h9 hma (h2 hB) hkM hB hde hse had hae (write_e (cnt := upd cnt 0 (cnt 0 + 1)) had (M0 hpb h.tb) h.c1 h.c2)
  rw [hpc] at hst
  have hex := ex_22 (st := st) (mem := mem) (outs := outs) (iq := iq) (gv := gv) (wr := -1) hb hn hk hde hse had (by rw [ss]; exact hae)
  rw [s9, hpc, sd] at hex
  exact perf_w h hb hn had (hr1.1 d) (by omega) hex (by rw [hkM, hB]; exact hst) (hG.up 9 (nI ((a + 2) % 256))) (hs1.up (i := 9) (x := (nI ((a + 2) % 256))) (isB_lit (Nat.mod_lt _ (by omega))) (by omega)) (hr1.up (i := 9) (x := (nI ((a + 2) % 256))) (isB_lit (Nat.mod_lt _ (by omega))) (by omega)) (pcx_l (fun _ => by rw [hB, pk_us]) (by omega))
set_option maxRecDepth 20000 in
theorem perf_25 {mem reg inp rq gvn size len pages which exA exT cnt ks : Nat → Int32} {rf im rm lr room trn kd by_ fm fs fp fd lb ov : Int32} {st outs code lenC beh siz ser exP lnk : Nat → Int32} {iq rqq : TQ} {gv limit blocks filled trl fls dead lrq exe inv lku itp itr en ext : Int32} {f : Bool} {e T a b n : Nat} {ls : Nat → List (Nat × Nat)} (h : RS f e T ls ((st, mem, iq, outs, gv, (-1)), (code, lenC, beh, siz, ser, exP, lnk, limit, blocks, filled, trl, fls, dead), rqq, lrq, exe, inv, lku, itp, itr, en, ext) (rf, mem, reg, inp, im, rq, rm, lr, gvn, size, len, pages, which, exA, exT, room, trn, cnt, kd, by_, fm, fs, fp, fd, ks, lb, ov)) (he : e < 2 ^ 30) (ha : a < 256) (hb : b < 256) (hn : n < 256) (h9 : reg 9 = nI a) (hma : mem a = nI b) (h2 : bytB b = 2 → mem ((a + 1) % 256) = nI n) (hne : neeB b = true → f = true) (hk : kC b = 25) : ∃ B' M', fX4_perform ((st, mem, iq, outs, gv, (-1)), (code, lenC, beh, siz, ser, exP, lnk, limit, blocks, filled, trl, fls, dead), rqq, lrq, exe, inv, lku, itp, itr, en, ext) (nI (wd b n false)) = some B' ∧ fX5_step (rf, mem, reg, inp, im, rq, rm, lr, gvn, size, len, pages, which, exA, exT, room, trn, cnt, kd, by_, fm, fs, fp, fd, ks, lb, ov) = some M' ∧ PF true e T ls b n a ((st, mem, iq, outs, gv, (-1)), (code, lenC, beh, siz, ser, exP, lnk, limit, blocks, filled, trl, fls, dead), rqq, lrq, exe, inv, lku, itp, itr, en, ext) (rf, mem, reg, inp, im, rq, rm, lr, gvn, size, len, pages, which, exA, exT, room, trn, cnt, kd, by_, fm, fs, fp, fd, ks, lb, ov) B' M' := by
  have hG : GR f st reg := h.g
  have hs1 : BI st := h.bs
  have hr1 : BI reg := h.br
  have hMB : ∀ i, isB (mem i) := h.mb
  have c10 : cnt 10 = gv := h.c10
  obtain ⟨gn, hgn, hgv⟩ := h.gv
  have hgv : gv = nI gn := hgv
  have hkM : kM b = 24 := by rw [(t_kinds b hb).1, hk]; rfl
  have hB : bytB b = 2 := by unfold bytB; rw [hk]; decide
  obtain ⟨d, hde⟩ : ∃ d, b / 4 % 4 = d := ⟨_, rfl⟩
  obtain ⟨s, hse⟩ : ∃ s, b % 4 = s := ⟨_, rfl⟩
  have hd : d < 4 := by omega
  have hs : s < 4 := by omega
  have sd : st d = reg d := hG.1 d (by omega) (by omega) (by omega)
  have ss : st s = reg s := hG.1 s (by omega) (by omega) (by omega)
  have s4 : st 4 = reg 4 := hG.1 4 (by omega) (by omega) (by omega)
  have s0 : st 0 = reg 0 := hG.1 0 (by omega) (by omega) (by omega)
  have s9 : st 9 = nI a := (hG.1 9 (by omega) (by omega) (by omega)).trans h9
  have hpc : (nI a + 2) &&& 255 = nI ((a + 2) % 256) := by rw [show (2 : Int32) = nI 2 from rfl, nI_add, and255 (by omega)]
  have hf : f = true := hne (by unfold neeB; rw [hk]; decide)
  subst hf
  have hpb : ∀ p, p < 256 → PB mem code lenC beh siz ser exP lnk size len pages which exA exT (ls p) T p := h.pb
  obtain ⟨sp, hsp, hspe⟩ := isB_and (reg 4 - 1)
  have hst := sp_24 (rf := rf) (inp := inp) (im := im) (rq := rq) (rm := rm) (lr := lr) (gvn := gvn) (size := size) (len := len) (pages := pages) (which := which) (exA := exA) (exT := exT) (room := room) (trn := trn) (cnt := cnt) (kd := kd) (by_ := by_) (fm := fm) (fs := fs) (fp := fp) (fd := fd) (ks := ks) (lb := lb) (ov := ov) ha hb hn h9 hma (h2 hB) hkM hB hde hse hsp hspe (write_e (cnt := upd cnt 0 (cnt 0 + 1)) hsp (M0 hpb h.tb) h.c1 h.c2)
  rw [hpc] at hst
  have hex := ex_25 (st := st) (mem := mem) (outs := outs) (iq := iq) (gv := gv) (wr := -1) hb hn hk hde hse hsp (by rw [s4]; exact hspe)
  rw [s9, hpc] at hex
  exact perf_w h hb hn hsp (isB_lit (Nat.mod_lt _ (by omega))) (by omega) hex (by rw [hkM, hB]; exact hst) (((hG.up 9 (nI ((a + 2) % 256))).up 4 (nI sp)).up 9 (nI n)) (((hs1.up (i := 9) (x := (nI ((a + 2) % 256))) (isB_lit (Nat.mod_lt _ (by omega))) (by omega)).up (i := 4) (x := nI sp) (isB_lit hsp) (by omega)).up (i := 9) (x := nI n) (isB_lit hn) (by omega)) (((hr1.up (i := 9) (x := (nI ((a + 2) % 256))) (isB_lit (Nat.mod_lt _ (by omega))) (by omega)).up (i := 4) (x := nI sp) (isB_lit hsp) (by omega)).up (i := 9) (x := nI n) (isB_lit hn) (by omega)) ⟨fun z => absurd z (lea_t hk (by decide)), fun _ => pk_us, fun z => absurd z (by omega)⟩
set_option maxRecDepth 20000 in
theorem perf_27 {mem reg inp rq gvn size len pages which exA exT cnt ks : Nat → Int32} {rf im rm lr room trn kd by_ fm fs fp fd lb ov : Int32} {st outs code lenC beh siz ser exP lnk : Nat → Int32} {iq rqq : TQ} {gv limit blocks filled trl fls dead lrq exe inv lku itp itr en ext : Int32} {f : Bool} {e T a b n : Nat} {ls : Nat → List (Nat × Nat)} (h : RS f e T ls ((st, mem, iq, outs, gv, (-1)), (code, lenC, beh, siz, ser, exP, lnk, limit, blocks, filled, trl, fls, dead), rqq, lrq, exe, inv, lku, itp, itr, en, ext) (rf, mem, reg, inp, im, rq, rm, lr, gvn, size, len, pages, which, exA, exT, room, trn, cnt, kd, by_, fm, fs, fp, fd, ks, lb, ov)) (he : e < 2 ^ 30) (ha : a < 256) (hb : b < 256) (hn : n < 256) (h9 : reg 9 = nI a) (hma : mem a = nI b) (h2 : bytB b = 2 → mem ((a + 1) % 256) = nI n) (hne : neeB b = true → f = true) (hk : kC b = 27) : ∃ B' M', fX4_perform ((st, mem, iq, outs, gv, (-1)), (code, lenC, beh, siz, ser, exP, lnk, limit, blocks, filled, trl, fls, dead), rqq, lrq, exe, inv, lku, itp, itr, en, ext) (nI (wd b n false)) = some B' ∧ fX5_step (rf, mem, reg, inp, im, rq, rm, lr, gvn, size, len, pages, which, exA, exT, room, trn, cnt, kd, by_, fm, fs, fp, fd, ks, lb, ov) = some M' ∧ PF true e T ls b n a ((st, mem, iq, outs, gv, (-1)), (code, lenC, beh, siz, ser, exP, lnk, limit, blocks, filled, trl, fls, dead), rqq, lrq, exe, inv, lku, itp, itr, en, ext) (rf, mem, reg, inp, im, rq, rm, lr, gvn, size, len, pages, which, exA, exT, room, trn, cnt, kd, by_, fm, fs, fp, fd, ks, lb, ov) B' M' := by
  have hG : GR f st reg := h.g
  have hs1 : BI st := h.bs
  have hr1 : BI reg := h.br
  have hMB : ∀ i, isB (mem i) := h.mb
  have c10 : cnt 10 = gv := h.c10
  obtain ⟨gn, hgn, hgv⟩ := h.gv
  have hgv : gv = nI gn := hgv
  have hkM : kM b = 26 := by rw [(t_kinds b hb).1, hk]; rfl
  have hB : bytB b = 1 := by unfold bytB; rw [hk]; decide
  obtain ⟨d, hde⟩ : ∃ d, b / 4 % 4 = d := ⟨_, rfl⟩
  obtain ⟨s, hse⟩ : ∃ s, b % 4 = s := ⟨_, rfl⟩
  have hd : d < 4 := by omega
  have hs : s < 4 := by omega
  have sd : st d = reg d := hG.1 d (by omega) (by omega) (by omega)
  have ss : st s = reg s := hG.1 s (by omega) (by omega) (by omega)
  have s4 : st 4 = reg 4 := hG.1 4 (by omega) (by omega) (by omega)
  have s0 : st 0 = reg 0 := hG.1 0 (by omega) (by omega) (by omega)
  have s9 : st 9 = nI a := (hG.1 9 (by omega) (by omega) (by omega)).trans h9
  obtain ⟨n', hn', en'⟩ := hMB ((a + 1) % 256)
  have hpc : (nI a + 1) &&& 255 = nI ((a + 1) % 256) := by rw [nI_1, and255 (by omega)]
  have hf : f = true := hne (by unfold neeB; rw [hk]; decide)
  subst hf
  have hpb : ∀ p, p < 256 → PB mem code lenC beh siz ser exP lnk size len pages which exA exT (ls p) T p := h.pb
  obtain ⟨sp, hsp, hspe⟩ := isB_and (reg 4 - 1)
  have hst := sp_26 (rf := rf) (inp := inp) (im := im) (rq := rq) (rm := rm) (lr := lr) (gvn := gvn) (size := size) (len := len) (pages := pages) (which := which) (exA := exA) (exT := exT) (room := room) (trn := trn) (cnt := cnt) (kd := kd) (by_ := by_) (fm := fm) (fs := fs) (fp := fp) (fd := fd) (ks := ks) (lb := lb) (ov := ov) ha hb hn' h9 hma en' hkM hB hde hse hsp hspe (write_e (cnt := upd cnt 0 (cnt 0 + 1)) hsp (M0 hpb h.tb) h.c1 h.c2)
  have hex := ex_27 (st := st) (mem := mem) (outs := outs) (iq := iq) (gv := gv) (wr := -1) hb hn hk hde hse hsp (by rw [s4]; exact hspe)
  rw [s9, hpc, sd] at hex
  exact perf_w h hb hn hsp (hr1.1 d) (by omega) hex (by rw [hkM, hB]; exact hst) ((hG.up 9 (nI ((a + 1) % 256))).up 4 (nI sp)) ((hs1.up (i := 9) (x := (nI ((a + 1) % 256))) (isB_lit (Nat.mod_lt _ (by omega))) (by omega)).up (i := 4) (x := nI sp) (isB_lit hsp) (by omega)) ((hr1.up (i := 9) (x := (nI ((a + 1) % 256))) (isB_lit (Nat.mod_lt _ (by omega))) (by omega)).up (i := 4) (x := nI sp) (isB_lit hsp) (by omega)) (pcx_l (fun _ => by rw [hB]; exact (pk_un (by omega)).trans pk_us) (by omega))
set_option maxRecDepth 20000 in
theorem perf {f dd : Bool} {e T a b n : Nat} {ls : Nat → List (Nat × Nat)} {B : TB} {M : TM} (h : RS f e T ls B M) (he : e < 2 ^ 30) (ha : a < 256) (hb : b < 256) (hn : n < 256) (h9 : gM_reg M 9 = nI a) (hma : gM_memory M a = nI b) (h2 : bytB b = 2 → gM_memory M ((a + 1) % 256) = nI n) (hne : neeB b = true → f = true) (hdd : dd = true → makB b = true) (hk0 : ¬ kC b = 0) :
    ∃ B' M', fX4_perform B (nI (wd b n dd)) = some B' ∧ fX5_step M = some M' ∧ PF (if makB b = true then !dd else f) e T ls b n a B M B' M' := by
  obtain ⟨⟨st, mem, iq, outs, gv, wr⟩, ⟨code, lenC, beh, siz, ser, exP, lnk, limit, blocks, filled, trl, fls, dead⟩, rqq, lrq, exe, inv, lku, itp, itr, en, ext⟩ := B
  obtain ⟨rf, memM, reg, inp, im, rq, rm, lr, gvn, size, len, pages, which, exA, exT, room, trn, cnt, kd, by_, fm, fs, fp, fd, ks, lb, ov⟩ := M
  have hm : mem = memM := h.m
  subst hm
  have hw : wr = -1 := h.wr
  subst hw
  have h9 : reg 9 = nI a := h9
  have hma : mem a = nI b := hma
  have h2 : bytB b = 2 → mem ((a + 1) % 256) = nI n := h2
  have hk30 := (kC_eq b hb).2
  rcases (show kC b = 1 ∨ kC b = 2 ∨ kC b = 3 ∨ kC b = 4 ∨ kC b = 5 ∨ kC b = 6 ∨ kC b = 7 ∨ kC b = 8 ∨ kC b = 9 ∨ kC b = 10 ∨ kC b = 11 ∨ kC b = 12 ∨ kC b = 13 ∨ kC b = 14 ∨ kC b = 15 ∨ kC b = 16 ∨ kC b = 17 ∨ kC b = 18 ∨ kC b = 19 ∨ kC b = 20 ∨ kC b = 21 ∨ kC b = 22 ∨ kC b = 23 ∨ kC b = 24 ∨ kC b = 25 ∨ kC b = 26 ∨ kC b = 27 ∨ kC b = 28 ∨ kC b = 29 by omega) with hk | hk | hk | hk | hk | hk | hk | hk | hk | hk | hk | hk | hk | hk | hk | hk | hk | hk | hk | hk | hk | hk | hk | hk | hk | hk | hk | hk | hk
  · have hm : makB b = false := by unfold makB; rw [hk]; decide
    rw [if_neg (by rw [hm]; decide)]
    have hd0 : dd = false := by
      cases dd
      · rfl
      · exact absurd (hdd rfl) (by rw [hm]; decide)
    subst hd0
    exact perf_1 h he ha hb hn h9 hma h2 hne hk
  · have hm : makB b = false := by unfold makB; rw [hk]; decide
    rw [if_neg (by rw [hm]; decide)]
    have hd0 : dd = false := by
      cases dd
      · rfl
      · exact absurd (hdd rfl) (by rw [hm]; decide)
    subst hd0
    exact perf_2 h he ha hb hn h9 hma h2 hne hk
  · have hm : makB b = false := by unfold makB; rw [hk]; decide
    rw [if_neg (by rw [hm]; decide)]
    have hd0 : dd = false := by
      cases dd
      · rfl
      · exact absurd (hdd rfl) (by rw [hm]; decide)
    subst hd0
    exact perf_3 h he ha hb hn h9 hma h2 hne hk
  · have hm : makB b = false := by unfold makB; rw [hk]; decide
    rw [if_neg (by rw [hm]; decide)]
    have hd0 : dd = false := by
      cases dd
      · rfl
      · exact absurd (hdd rfl) (by rw [hm]; decide)
    subst hd0
    exact perf_4 h he ha hb hn h9 hma h2 hne hk
  · have hm : makB b = false := by unfold makB; rw [hk]; decide
    rw [if_neg (by rw [hm]; decide)]
    have hd0 : dd = false := by
      cases dd
      · rfl
      · exact absurd (hdd rfl) (by rw [hm]; decide)
    subst hd0
    exact perf_5 h he ha hb hn h9 hma h2 hne hk
  · have hm : makB b = false := by unfold makB; rw [hk]; decide
    rw [if_neg (by rw [hm]; decide)]
    have hd0 : dd = false := by
      cases dd
      · rfl
      · exact absurd (hdd rfl) (by rw [hm]; decide)
    subst hd0
    exact perf_6 h he ha hb hn h9 hma h2 hne hk
  · have hm : makB b = true := by unfold makB; rw [hk]; decide
    rw [if_pos hm]
    exact perf_7 h he ha hb hn h9 hma h2 hne hk
  · have hm : makB b = true := by unfold makB; rw [hk]; decide
    rw [if_pos hm]
    exact perf_8 h he ha hb hn h9 hma h2 hne hk
  · have hm : makB b = true := by unfold makB; rw [hk]; decide
    rw [if_pos hm]
    exact perf_9 h he ha hb hn h9 hma h2 hne hk
  · have hm : makB b = true := by unfold makB; rw [hk]; decide
    rw [if_pos hm]
    exact perf_10 h he ha hb hn h9 hma h2 hne hk
  · have hm : makB b = true := by unfold makB; rw [hk]; decide
    rw [if_pos hm]
    exact perf_11 h he ha hb hn h9 hma h2 hne hk
  · have hm : makB b = true := by unfold makB; rw [hk]; decide
    rw [if_pos hm]
    exact perf_12 h he ha hb hn h9 hma h2 hne hk
  · have hm : makB b = true := by unfold makB; rw [hk]; decide
    rw [if_pos hm]
    exact perf_13 h he ha hb hn h9 hma h2 hne hk
  · have hm : makB b = true := by unfold makB; rw [hk]; decide
    rw [if_pos hm]
    exact perf_14 h he ha hb hn h9 hma h2 hne hk
  · have hm : makB b = true := by unfold makB; rw [hk]; decide
    rw [if_pos hm]
    exact perf_15 h he ha hb hn h9 hma h2 hne hk
  · have hm : makB b = true := by unfold makB; rw [hk]; decide
    rw [if_pos hm]
    exact perf_16 h he ha hb hn h9 hma h2 hne hk
  · have hm : makB b = false := by unfold makB; rw [hk]; decide
    rw [if_neg (by rw [hm]; decide)]
    have hd0 : dd = false := by
      cases dd
      · rfl
      · exact absurd (hdd rfl) (by rw [hm]; decide)
    subst hd0
    exact perf_17 h he ha hb hn h9 hma h2 hne hk
  · have hm : makB b = true := by unfold makB; rw [hk]; decide
    rw [if_pos hm]
    exact perf_18 h he ha hb hn h9 hma h2 hne hk
  · have hm : makB b = true := by unfold makB; rw [hk]; decide
    rw [if_pos hm]
    exact perf_19 h he ha hb hn h9 hma h2 hne hk
  · have hm : makB b = true := by unfold makB; rw [hk]; decide
    rw [if_pos hm]
    exact perf_20 h he ha hb hn h9 hma h2 hne hk
  · have hm : makB b = false := by unfold makB; rw [hk]; decide
    rw [if_neg (by rw [hm]; decide)]
    have hd0 : dd = false := by
      cases dd
      · rfl
      · exact absurd (hdd rfl) (by rw [hm]; decide)
    subst hd0
    exact perf_21 h he ha hb hn h9 hma h2 hne hk
  · have hm : makB b = false := by unfold makB; rw [hk]; decide
    rw [if_neg (by rw [hm]; decide)]
    have hd0 : dd = false := by
      cases dd
      · rfl
      · exact absurd (hdd rfl) (by rw [hm]; decide)
    subst hd0
    have hf : f = true := hne (by unfold neeB; rw [hk]; decide)
    rw [hf]
    exact perf_22 h he ha hb hn h9 hma h2 hne hk
  · have hm : makB b = false := by unfold makB; rw [hk]; decide
    rw [if_neg (by rw [hm]; decide)]
    have hd0 : dd = false := by
      cases dd
      · rfl
      · exact absurd (hdd rfl) (by rw [hm]; decide)
    subst hd0
    exact perf_23 h he ha hb hn h9 hma h2 hne hk
  · have hm : makB b = false := by unfold makB; rw [hk]; decide
    rw [if_neg (by rw [hm]; decide)]
    have hd0 : dd = false := by
      cases dd
      · rfl
      · exact absurd (hdd rfl) (by rw [hm]; decide)
    subst hd0
    exact perf_24 h he ha hb hn h9 hma h2 hne hk
  · have hm : makB b = false := by unfold makB; rw [hk]; decide
    rw [if_neg (by rw [hm]; decide)]
    have hd0 : dd = false := by
      cases dd
      · rfl
      · exact absurd (hdd rfl) (by rw [hm]; decide)
    subst hd0
    have hf : f = true := hne (by unfold neeB; rw [hk]; decide)
    rw [hf]
    exact perf_25 h he ha hb hn h9 hma h2 hne hk
  · have hm : makB b = false := by unfold makB; rw [hk]; decide
    rw [if_neg (by rw [hm]; decide)]
    have hd0 : dd = false := by
      cases dd
      · rfl
      · exact absurd (hdd rfl) (by rw [hm]; decide)
    subst hd0
    exact perf_26 h he ha hb hn h9 hma h2 hne hk
  · have hm : makB b = false := by unfold makB; rw [hk]; decide
    rw [if_neg (by rw [hm]; decide)]
    have hd0 : dd = false := by
      cases dd
      · rfl
      · exact absurd (hdd rfl) (by rw [hm]; decide)
    subst hd0
    have hf : f = true := hne (by unfold neeB; rw [hk]; decide)
    rw [hf]
    exact perf_27 h he ha hb hn h9 hma h2 hne hk
  · have hm : makB b = false := by unfold makB; rw [hk]; decide
    rw [if_neg (by rw [hm]; decide)]
    have hd0 : dd = false := by
      cases dd
      · rfl
      · exact absurd (hdd rfl) (by rw [hm]; decide)
    subst hd0
    exact perf_28 h he ha hb hn h9 hma h2 hne hk
  · have hm : makB b = false := by unfold makB; rw [hk]; decide
    rw [if_neg (by rw [hm]; decide)]
    have hd0 : dd = false := by
      cases dd
      · rfl
      · exact absurd (hdd rfl) (by rw [hm]; decide)
    subst hd0
    exact perf_29 h he ha hb hn h9 hma h2 hne hk

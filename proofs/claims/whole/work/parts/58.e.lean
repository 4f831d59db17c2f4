theorem dcl_last {m : Nat → Int32} {p : Nat} : dcl m 8 p = [] ∨ ∃ pre q, dcl m 8 p = pre ++ [q] := by
  rcases List.eq_nil_or_concat (dcl m 8 p) with h | ⟨pre, q, h⟩
  · exact Or.inl h
  · exact Or.inr ⟨pre, q, by rw [h, List.concat_eq_append]⟩
set_option maxRecDepth 20000 in
theorem find_e {mem reg inp rq gvn size len pages which exA exT cnt ks : Nat → Int32} {rf im rm lr room trn kd by_ fm fs fp fd lb ov : Int32} {p : Nat} {pre : List (Nat × Nat)} {q : Nat × Nat} (hm : ∀ i, isB (mem i)) (hp : p < 256) (hl : dcl mem 8 p = pre ++ [q]) :
    ∃ (kd' by' : Int32) (ks' : Nat → Int32) (P : Nat), P < 256 ∧ (∀ g, g < 8 → (P.testBit g = true ↔ ∃ k, k < nby (pre ++ [q]) ∧ (p + k) % 256 / 32 = g)) ∧
      fX5_find (rf, mem, reg, inp, im, rq, rm, lr, gvn, size, len, pages, which, exA, exT, room, trn, cnt, kd, by_, fm, fs, fp, fd, ks, lb, ov) (nI p) = some (rf, mem, reg, inp, im, rq, rm, lr, gvn, size, len, pages, which, exA, exT, room, trn, cnt, kd', by', (nI (pre ++ [q]).length), (nI ((if leaB q.1 = true then 0 else 1) + szC (pre ++ [q]))), (nI P), (nI (ndd (pre ++ [q]))), ks', lb, ov) := by
  have hfu : 9 < fuelX5_find_27 := by unfold fuelX5_find_27; omega
  obtain ⟨kd', by', ks', P, a1, a2, a3, a4, a5⟩ := fd_loop (reg := reg) (inp := inp) (rq := rq) (gvn := gvn) (size := size) (len := len) (pages := pages) (which := which) (exA := exA) (exT := exT) (cnt := cnt) (rf := rf) (im := im) (rm := rm) (lr := lr) (room := room) (trn := trn) (lb := lb) (ov := ov) hm fuelX5_find_27 0 p 0 none (-1) kd by_ 0 0 ks (by omega) (by omega) hp (by omega) rfl
  rw [show 8 - 0 = 8 from rfl, hl] at a2 a3 a5
  have h8 := dcl_len (m := mem) 8 p
  have hok := mt_ok _ (dcl_mt hm 8 p)
  rw [hl] at h8 hok
  have hq := hok q (by simp)
  have hll : (pre ++ [q]).length = pre.length + 1 := by simp
  have hks := a3 pre q rfl
  rw [Nat.zero_add] at hks
  have s0 : (0 : Int32) + nI (szC (pre ++ [q])) - nI (sv none (man (pre ++ [q]))) = nI (szC (pre ++ [q])) := by
    show (0 : Int32) + nI (szC (pre ++ [q])) - 0 = _
    grind
  have d0 : (0 : Int32) + nI (ndd (pre ++ [q])) + nI (dv none (man (pre ++ [q]))) = nI (ndd (pre ++ [q])) := by
    show (0 : Int32) + nI (ndd (pre ++ [q])) + 0 = _
    grind
  rw [s0, d0, Nat.zero_add] at a5
  refine ⟨kd', by', ks', P, a1, fun g hg => ?_, ?_⟩
  · rw [a2 g hg, Nat.zero_testBit]
    simp
  · rw [fX5_find]
    simp only [pLet_e]
    have e1 : sM_foundDead (sM_foundPages (sM_foundSize (sM_foundMany (rf, mem, reg, inp, im, rq, rm, lr, gvn, size, len, pages, which, exA, exT, room, trn, cnt, kd, by_, fm, fs, fp, fd, ks, lb, ov) 0) 0) 0) 0 = (rf, mem, reg, inp, im, rq, rm, lr, gvn, size, len, pages, which, exA, exT, room, trn, cnt, kd, by_, (nI 0), 0, (nI 0), 0, ks, lb, ov) := rfl
    rw [e1, a5, fX5_find_b344]
    obtain ⟨u, hu⟩ : ∃ u, u = (rf, mem, reg, inp, im, rq, rm, lr, gvn, size, len, pages, which, exA, exT, room, trn, cnt, kd', by', (nI (pre ++ [q]).length), (nI (szC (pre ++ [q]))), (nI P), (nI (ndd (pre ++ [q]))), ks', lb, ov) := ⟨_, rfl⟩
    have u1 : gM_foundMany u = nI (pre.length + 1) := by rw [hu, ← hll]; rfl
    have u2 : gM_kinds u = ks' := by rw [hu]; rfl
    rw [← hu, u1, if_neg (show ¬ nI (pre.length + 1) ≤ 0 from nI_ge (a := 0) (by omega) (by omega))]
    rw [show nI (pre.length + 1) - 1 = nI pre.length by rw [show (1 : Int32) = nI 1 from rfl, pk_sub (by omega)]; rfl, pIn_n (by omega) (by omega), cl_n (by omega), u2, hks, fX5_find_b366, u1, if_neg (show ¬ nI (pre.length + 1) ≤ 0 from nI_ge (a := 0) (by omega) (by omega)), pLet_e]
    have hla := t_la q.1 hq.1
    have e389 : fX5_find_b389 u = some (rf, mem, reg, inp, im, rq, rm, lr, gvn, size, len, pages, which, exA, exT, room, trn, cnt, kd', by', (nI (pre ++ [q]).length), (nI (1 + szC (pre ++ [q]))), (nI P), (nI (ndd (pre ++ [q]))), ks', lb, ov) := by
      rw [fX5_find_b389, pLet_e, Nat.add_comm 1, ← nI_1, hu]
      rfl
    by_cases hle : leaB q.1 = true
    · have hn : ¬ (nI (kM q.1) = 4 ∨ fX5_ends (nI (kM q.1)) = 0) := fun z => by have := hla.mp z; rw [hle] at this; cases this
      rw [if_neg (fun z => hn (Or.inl z)), if_neg (fun z => hn (Or.inr z)), if_pos hle, Nat.zero_add, hu]
    · have hle' : leaB q.1 = false := by simpa using hle
      rw [if_neg hle]
      by_cases h4 : nI (kM q.1) = 4
      · rw [if_pos h4, e389]
      · rw [if_neg h4, if_pos ((hla.mpr hle').resolve_left h4), e389]
set_option maxRecDepth 20000 in
theorem find_0 {mem reg inp rq gvn size len pages which exA exT cnt ks : Nat → Int32} {rf im rm lr room trn kd by_ fm fs fp fd lb ov : Int32} {p : Nat} (hm : ∀ i, isB (mem i)) (hp : p < 256) (hl : dcl mem 8 p = []) :
    ∃ (kd' by' fs' fp' fd' : Int32) (ks' : Nat → Int32), fX5_find (rf, mem, reg, inp, im, rq, rm, lr, gvn, size, len, pages, which, exA, exT, room, trn, cnt, kd, by_, fm, fs, fp, fd, ks, lb, ov) (nI p) = some (rf, mem, reg, inp, im, rq, rm, lr, gvn, size, len, pages, which, exA, exT, room, trn, cnt, kd', by', (nI 0), fs', fp', fd', ks', lb, ov) := by
  have hfu : 9 < fuelX5_find_27 := by unfold fuelX5_find_27; omega
  obtain ⟨kd', by', ks', P, a1, a2, a3, a4, a5⟩ := fd_loop (reg := reg) (inp := inp) (rq := rq) (gvn := gvn) (size := size) (len := len) (pages := pages) (which := which) (exA := exA) (exT := exT) (cnt := cnt) (rf := rf) (im := im) (rm := rm) (lr := lr) (room := room) (trn := trn) (lb := lb) (ov := ov) hm fuelX5_find_27 0 p 0 none (-1) kd by_ 0 0 ks (by omega) (by omega) hp (by omega) rfl
  rw [show 8 - 0 = 8 from rfl, hl] at a5
  refine ⟨kd', by', 0 + nI (szC []) - nI (sv none (man [])), nI P, 0 + nI (ndd []) + nI (dv none (man [])), ks', ?_⟩
  · rw [fX5_find]
    simp only [pLet_e]
    have e1 : sM_foundDead (sM_foundPages (sM_foundSize (sM_foundMany (rf, mem, reg, inp, im, rq, rm, lr, gvn, size, len, pages, which, exA, exT, room, trn, cnt, kd, by_, fm, fs, fp, fd, ks, lb, ov) 0) 0) 0) 0 = (rf, mem, reg, inp, im, rq, rm, lr, gvn, size, len, pages, which, exA, exT, room, trn, cnt, kd, by_, (nI 0), 0, (nI 0), 0, ks, lb, ov) := rfl
    rw [e1, a5]
    obtain ⟨u, hu⟩ : ∃ u, u = (rf, mem, reg, inp, im, rq, rm, lr, gvn, size, len, pages, which, exA, exT, room, trn, cnt, kd', by', (nI (0 + ([] : List (Nat × Nat)).length)), (0 + nI (szC []) - nI (sv none (man []))), (nI P), (0 + nI (ndd []) + nI (dv none (man []))), ks', lb, ov) := ⟨_, rfl⟩
    have u1 : gM_foundMany u = nI 0 := by rw [hu]; rfl
    rw [← hu, fX5_find_b344, u1, if_pos (by decide), fX5_find_b366, u1, if_pos (by decide), hu]
    rfl
theorem sm_ins {f g : Nat → Int32} {p : Nat} (h : ∀ i, i ≠ p → g i = f i) (hf : f p = 0) (hp : p < 256) : sm g 256 = sm f 256 + g p := by
  rw [sm_one h hp, hf]
  grind
section INS
variable {ser siz size : Nat → Int32} {p : Nat} {k z : Int32}
theorem cn_ins (hp : p < 256) (h : ser p = 0) (hk : ¬ k = 0) : cn (upd ser p k) = cn ser + 1 := by
  unfold cn
  rw [sm_ins (f := fun p => if ser p = 0 then 0 else 1) (p := p) (fun i hi => by rw [pk_un hi]) (if_pos h) hp]
  rw [pk_us, if_neg hk]
theorem fl_ins (hp : p < 256) (h : ser p = 0) (hk : ¬ k = 0) : fl (upd ser p k) (upd siz p z) = fl ser siz + z := by
  unfold fl
  rw [sm_ins (f := fun p => if ser p = 0 then 0 else siz p) (p := p) (fun i hi => by rw [pk_un hi, pk_un hi]) (if_pos h) hp]
  rw [pk_us, if_neg hk, pk_us]
theorem fl_siz (hp : p < 256) (h : ser p = 0) : fl ser (upd siz p z) = fl ser siz := by
  unfold fl
  refine sm_congr fun i hi => ?_
  by_cases e : i = p
  · subst e; rw [if_pos h, if_pos h]
  · rw [pk_un e]
theorem cnM_ins (hp : p < 256) (h : size p = 0) (hk : ¬ z ≤ 0) : cnM (upd size p z) = cnM size + 1 ∧ flM (upd size p z) = flM size + z := by
  have hz : size p ≤ 0 := by rw [h]; decide
  constructor
  · unfold cnM
    rw [sm_ins (f := fun p => if size p ≤ 0 then 0 else 1) (p := p) (fun i hi => by rw [pk_un hi]) (if_pos hz) hp]
    rw [pk_us, if_neg hk]
  · unfold flM
    rw [sm_ins (f := fun p => if size p ≤ 0 then 0 else size p) (p := p) (fun i hi => by rw [pk_un hi]) (if_pos hz) hp]
    rw [pk_us, if_neg hk]
end INS
section OTH
variable {mem code len beh siz ser exP lnk size lenM pages which exA exT : Nat → Int32} {l : List (Nat × Nat)} {T p : Nat}
variable {code' len' beh' siz' ser' exP' lnk' size' lenM' pages' which' exA' exT' : Nat → Int32}
theorem LK.cong (h : LK exP lnk exA exT p) (x0 : exP' (2 * p) = exP (2 * p)) (x1 : exP' (2 * p + 1) = exP (2 * p + 1)) (y0 : lnk' (2 * p) = lnk (2 * p)) (y1 : lnk' (2 * p + 1) = lnk (2 * p + 1)) (z0 : exA' (2 * p) = exA (2 * p)) (z1 : exA' (2 * p + 1) = exA (2 * p + 1)) (w0 : exT' (2 * p) = exT (2 * p)) (w1 : exT' (2 * p + 1) = exT (2 * p + 1)) : LK exP' lnk' exA' exT' p := by
  refine ⟨fun t ht => ?_, ?_, ?_, ?_⟩
  · have := h.a t ht
    unfold lcF lmF at this ⊢
    rw [x0, x1, y0, y1, z0, z1, w0, w1]
    exact this
  · rw [z0, z1]; exact h.b
  · rw [z0, x0, x1]; exact h.c
  · rw [z0, z1, x0, x1]; exact h.d
theorem PR.cong (h : PR mem code len beh siz ser exP lnk size lenM pages which exA exT l T p) (hc : ∀ j, 8 * p ≤ j → j < 8 * p + 8 → code' j = code j) (a1 : len' p = len p) (a2 : beh' p = beh p) (a3 : siz' p = siz p) (a4 : ser' p = ser p) (a5 : size' p = size p) (a6 : lenM' p = lenM p) (a7 : pages' p = pages p) (a8 : which' p = which p)
    (x0 : exP' (2 * p) = exP (2 * p)) (x1 : exP' (2 * p + 1) = exP (2 * p + 1)) (lk : LK exP' lnk' exA' exT' p) {T' : Nat} (hT : T ≤ T') : PR mem code' len' beh' siz' ser' exP' lnk' size' lenM' pages' which' exA' exT' l T' p := by
  have h8 := h.l8
  refine ⟨h.ne, h.l8, h.mt, h.ed, a1.trans h.le, a6.trans h.lm, a2.trans h.be, cwd_cong l _ (fun j b1 b2 => hc j b1 (by omega)) h.cw, by rw [a3, a5]; exact h.sz, ?_, fun g hg => ?_, fun pre q e => by rw [x0, x1]; exact h.ex pre q e, lk⟩
  · obtain ⟨k, k1, k2, k3, k4⟩ := h.se
    exact ⟨k, k1, by omega, a4.trans k3, a8.trans k4⟩
  · have := h.pg g hg
    unfold mtc tch at this ⊢
    rw [a2, a7]
    exact this
end OTH

def bI (b : Bool) : Int32 := if b = true then 1 else 0
theorem bI_t : bI true = 1 := rfl
theorem bI_f : bI false = 0 := rfl
def ndd : List (Nat × Nat) → Nat
  | [] => 0
  | q :: r => (if (makB q.1 && man r) = true then 1 else 0) + ndd r
def szw (b : Nat) (dd : Bool) : Nat := if makB b = true then (if dd = true then (if cmpB b = true then 0 else swfB b) else swfB b + (if kC b = 16 then 4 else 3)) else swfB b
def szC : List (Nat × Nat) → Nat
  | [] => 0
  | q :: r => szw q.1 (makB q.1 && man r) + szC r
def okL (l : List (Nat × Nat)) : Prop := ∀ q ∈ l, q.1 < 256 ∧ q.2 < 256
theorem mt_ok : ∀ (l : List (Nat × Nat)) {m : Nat → Int32} {a : Nat}, mt m a l → okL l
  | [], _, _, _ => fun q hq => absurd hq List.not_mem_nil
  | z :: r, m, a, h => fun q hq => by
    rcases List.mem_cons.mp hq with e | e
    · rw [e]; exact ⟨h.2.1, h.2.2.1⟩
    · exact mt_ok r h.2.2.2.2.2 q e
theorem szw_le {b : Nat} {dd : Bool} (hb : b < 256) : szw b dd ≤ 8 := by
  have := (t_swf b hb).2
  unfold szw
  repeat' split
  all_goals omega
theorem szC_le : ∀ (l : List (Nat × Nat)), okL l → szC l ≤ 8 * l.length
  | [], _ => by simp [szC]
  | q :: r, h => by
    have h1 := szC_le r (fun z hz => h z (List.mem_cons_of_mem _ hz))
    have h2 := szw_le (dd := makB q.1 && man r) (h q List.mem_cons_self).1
    simp only [szC, List.length_cons]
    omega
theorem ndd_le : ∀ (l : List (Nat × Nat)), ndd l ≤ l.length
  | [] => by simp [ndd]
  | q :: r => by
    have h1 := ndd_le r
    simp only [ndd, List.length_cons]
    split <;> omega
theorem cwd_at {code : Nat → Int32} : ∀ (pre : List (Nat × Nat)) (q : Nat × Nat) (r : List (Nat × Nat)) (k : Nat), cwd code k (pre ++ q :: r) → code (k + pre.length) = nI (wd q.1 q.2 (makB q.1 && man r))
  | [], q, r, k, h => h.1
  | z :: pre, q, r, k, h => by
    have := cwd_at pre q r (k + 1) h.2
    rw [List.length_cons, show k + (pre.length + 1) = k + 1 + pre.length by omega]
    exact this
theorem size_w {b n : Nat} {dd : Bool} (hb : b < 256) (hn : n < 256) : fX1_size (nI (wd b n dd)) = nI (szw b dd) := by
  unfold fX1_size
  simp only [pLet_e]
  rw [w_kind hb hn, t_mak b hb, w_dead hb hn, t_cmp b hb, (t_swf b hb).1]
  have hk := (kC_eq b hb).2
  unfold szw
  cases makB b
  · rfl
  · simp only [if_true, if_neg (show ¬ (1 : Int32) = 0 by decide)]
    cases dd
    · simp only [Bool.false_eq_true, if_false, if_true]
      by_cases h : kC b = 16
      · rw [if_pos h, if_pos (show nI (kC b) = 16 by rw [h]; rfl)]
        exact nI_add _ 4
      · rw [if_neg h, if_neg (show ¬ nI (kC b) = 16 from fun z => h (nI_inj (b := 16) (by omega) (by omega) z))]
        exact nI_add _ 3
    · simp only [if_true, if_neg (show ¬ (1 : Int32) = 0 by decide)]
      cases cmpB b
      · rfl
      · rfl
section TRC2
variable {len beh siz ser exP lnk : Nat → Int32} {limit blocks filled trl fls dead : Int32} {p : Nat}
theorem word_e {code : Nat → Int32} {i : Nat} (hp : p < 256) (hi : i < 8) : fX0_wordAt (code, len, beh, siz, ser, exP, lnk, limit, blocks, filled, trl, fls, dead) (nI p) (nI i) = some (code (8 * p + i)) := by
  have e8 : nI p * 8 + nI i = nI (8 * p + i) := by
    rw [show (8 : Int32) = nI 8 from rfl, pk_mul, nI_add, Nat.mul_comm]
  rw [fX0_wordAt_e, e8, pIn_n (by omega) (by omega), cl_n (by omega)]
  rfl
theorem md71 {K : TC → Int32 → Int32 → Int32 → Int32 → Option (Int32 × TC)} {u : TC} {x1 x2 x4 : Int32} {m : Bool} {b : Nat} (hb : b < 256) : fX0_markDead_b71 K u x1 x2 (bI m) x4 (nI (kC b)) (bI (makB b)) = K u x1 x2 (bI (!neeB b && (makB b || m))) (x4 + -1) := by
  rw [fX0_markDead_b71, pLet_e, t_nee b hb]
  have e88 : fX0_markDead_b88 K u x1 x2 x4 = K u x1 x2 1 (x4 + -1) := by rw [fX0_markDead_b88, fX0_markDead_b93, pLet_e]
  have e92 : fX0_markDead_b92 K u x1 x2 x4 = K u x1 x2 0 (x4 + -1) := by rw [fX0_markDead_b92, fX0_markDead_b93, pLet_e]
  rw [e88, e92]
  cases neeB b <;> cases makB b <;> cases m <;> rfl
theorem md_loop (hp : p < 256) : ∀ (fu : Nat) (pre suf : List (Nat × Nat)) (code : Nat → Int32), pre.length + suf.length ≤ 8 → pre.length < fu → okL pre → raw code (8 * p) pre → cwd code (8 * p + pre.length) suf →
    ∃ code', fX0_markDead_b14 fu (code, len, beh, siz, ser, exP, lnk, limit, blocks, filled, trl, fls, dead) (nI p) (nI (ndd suf)) (bI (man suf)) (nI pre.length - 1) = some (nI (ndd (pre ++ suf)), (code', len, beh, siz, ser, exP, lnk, limit, blocks, filled, trl, fls, dead)) ∧
      (∀ j, (j < 8 * p ∨ 8 * p + 8 ≤ j) → code' j = code j) ∧ cwd code' (8 * p) (pre ++ suf) := by
  intro fu
  induction fu with
  | zero => intro pre suf code h1 h2; omega
  | succ fu ih =>
    intro pre suf code h1 h2 hok hr hc
    rw [fX0_markDead_b14]
    rcases List.eq_nil_or_concat pre with e | ⟨pre', q, e⟩
    · subst e
      rw [if_pos (show nI ([] : List (Nat × Nat)).length - 1 < 0 by decide)]
      exact ⟨code, rfl, fun _ _ => rfl, hc⟩
    · subst e
      rw [List.concat_eq_append] at *
      have hl : (pre' ++ [q]).length = pre'.length + 1 := by simp
      rw [hl] at h1 h2 hc ⊢
      have e1 : nI (pre'.length + 1) - 1 = nI pre'.length := by
        rw [show (1 : Int32) = nI 1 from rfl, pk_sub (by omega)]
        rfl
      rw [e1, if_neg (show ¬ nI pre'.length < 0 from nI_nlt (b := 0) (by omega) (by omega)), word_e hp (by omega), pB_e2]
      have hr' := (raw_app pre' [q] (8 * p)).mp hr
      have hq := hok q (by simp)
      rw [hr'.2.1]
      simp only [pLet_e]
      rw [w_kind hq.1 hq.2, t_mak q.1 hq.1]
      have hok' : okL pre' := fun z hz => hok z (by simp [hz])
      have eA : (pre' ++ [q]) ++ suf = pre' ++ q :: suf := by simp
      rw [eA]
      have em : (!neeB q.1 && (makB q.1 || man suf)) = man (q :: suf) := rfl
      have ex : nI pre'.length + -1 = nI pre'.length - 1 := by grind
      have eb : (if makB q.1 = true then (1 : Int32) else 0) = bI (makB q.1) := rfl
      rw [eb]
      by_cases hd : (makB q.1 && man suf) = true
      · have hd1 : makB q.1 = true := by revert hd; cases makB q.1 <;> simp
        have hd2 : man suf = true := by revert hd; cases man suf <;> simp
        have z1 : ¬ bI (makB q.1) = 0 := by rw [hd1]; decide
        have z2 : ¬ bI (man suf) = 0 := by rw [hd2]; decide
        rw [if_neg z1, if_neg z2, w_asDead hq.1 hq.2]
        have e8 : nI p * 8 + nI pre'.length = nI (8 * p + pre'.length) := by
          rw [show (8 : Int32) = nI 8 from rfl, pk_mul, nI_add, Nat.mul_comm]
        rw [e8, pIn_n (by omega) (by omega), cl_n (by omega), md71 hq.1, em, ex, nI_1]
        have en : ndd (q :: suf) = ndd suf + 1 := by simp only [ndd, if_pos hd]; omega
        rw [← en]
        obtain ⟨c', a1, a2, a3⟩ := ih pre' (q :: suf) (upd code (8 * p + pre'.length) (nI (wd q.1 q.2 true))) (by simp only [List.length_cons]; omega) (by omega) hok' (raw_cong pre' _ (fun j a b => pk_un (by omega)) hr'.1) ⟨by rw [pk_us, hd], cwd_cong suf _ (fun j a b => pk_un (by omega)) (by rw [show 8 * p + pre'.length + 1 = 8 * p + (pre'.length + 1) by omega]; exact hc)⟩
        exact ⟨c', a1, fun j hj => by rw [a2 j hj, pk_un (by omega)], a3⟩
      · have hdf : (makB q.1 && man suf) = false := by simpa using hd
        have en : ndd (q :: suf) = ndd suf := by simp only [ndd, if_neg hd]; omega
        have go : fX0_markDead_b71 (fX0_markDead_b14 fu) (code, len, beh, siz, ser, exP, lnk, limit, blocks, filled, trl, fls, dead) (nI p) (nI (ndd suf)) (bI (man suf)) (nI pre'.length) (nI (kC q.1)) (bI (makB q.1)) = fX0_markDead_b14 fu (code, len, beh, siz, ser, exP, lnk, limit, blocks, filled, trl, fls, dead) (nI p) (nI (ndd (q :: suf))) (bI (man (q :: suf))) (nI pre'.length - 1) := by
          rw [md71 hq.1, em, ex, en]
        obtain ⟨c', a1, a2, a3⟩ := ih pre' (q :: suf) code (by simp only [List.length_cons]; omega) (by omega) hok' hr'.1 ⟨by rw [hdf]; exact hr'.2.1, by rw [show 8 * p + pre'.length + 1 = 8 * p + (pre'.length + 1) by omega]; exact hc⟩
        refine ⟨c', ?_, a2, a3⟩
        by_cases h3 : makB q.1 = true
        · have hd2 : man suf = false := by revert hdf; rw [h3]; simp
          rw [if_neg (show ¬ bI (makB q.1) = 0 by rw [h3]; decide), if_pos (show bI (man suf) = 0 by rw [hd2]; rfl), go]
          exact a1
        · have h3' : makB q.1 = false := by simpa using h3
          rw [if_pos (show bI (makB q.1) = 0 by rw [h3']; rfl), go]
          exact a1
theorem md_e {code : Nat → Int32} {l : List (Nat × Nat)} (hp : p < 256) (hl : l.length ≤ 8) (hle : len p = nI l.length) (hok : okL l) (hr : raw code (8 * p) l) : ∃ code', fX0_markDead (code, len, beh, siz, ser, exP, lnk, limit, blocks, filled, trl, fls, dead) (nI p) = some (nI (ndd l), (code', len, beh, siz, ser, exP, lnk, limit, blocks, filled, trl, fls, dead)) ∧
      (∀ j, (j < 8 * p ∨ 8 * p + 8 ≤ j) → code' j = code j) ∧ cwd code' (8 * p) l := by
  rw [fX0_markDead_e, pIn_n hp (by omega), cl_n (by omega), pLet_e, show gC_length (code, len, beh, siz, ser, exP, lnk, limit, blocks, filled, trl, fls, dead) p = nI l.length from hle]
  have hfu : 8 < fuelX0_markDead_14 := by unfold fuelX0_markDead_14; omega
  generalize fuelX0_markDead_14 = fu at hfu ⊢
  obtain ⟨c, a1, a2, a3⟩ := md_loop (len := len) (beh := beh) (siz := siz) (ser := ser) (exP := exP) (lnk := lnk) (limit := limit) (blocks := blocks) (filled := filled) (trl := trl) (fls := fls) (dead := dead) hp fu l [] code (by simpa using hl) (by omega) hok hr trivial
  rw [List.append_nil] at a1 a3
  exact ⟨c, a1, a2, a3⟩
theorem sz_loop {code : Nat → Int32} (hp : p < 256) : ∀ (fu : Nat) (suf : List (Nat × Nat)) (i s : Nat), i + suf.length ≤ 8 → suf.length < fu → len p = nI (i + suf.length) → okL suf → cwd code (8 * p + i) suf →
    fX0_sizeOf_b19 fu (code, len, beh, siz, ser, exP, lnk, limit, blocks, filled, trl, fls, dead) (nI p) (nI s) (nI i) = some (nI (s + szC suf)) := by
  intro fu
  induction fu with
  | zero => intro suf i s h1 h2; omega
  | succ fu ih =>
    intro suf i s h1 h2 hl hok hc
    rw [fX0_sizeOf_b19, pIn_n hp (by omega), cl_n (by omega), show gC_length (code, len, beh, siz, ser, exP, lnk, limit, blocks, filled, trl, fls, dead) p = nI (i + suf.length) from hl]
    cases suf with
    | nil =>
      rw [if_pos (show nI (i + ([] : List (Nat × Nat)).length) ≤ nI i from nI_le (by simp) (by omega))]
      rfl
    | cons q r =>
      simp only [List.length_cons] at h1 h2 hl ⊢
      have hq := hok q List.mem_cons_self
      rw [if_neg (nI_ge (by omega) (by omega)), word_e hp (by omega), pB_e2, hc.1]
      simp only [pLet_e]
      rw [size_w hq.1 hq.2, nI_add, nI_1, ih r (i + 1) _ (by omega) (by omega) (by rw [hl]; congr 1; omega) (fun z hz => hok z (List.mem_cons_of_mem _ hz)) hc.2]
      simp only [szC]
      rw [Nat.add_assoc]
theorem so_e {code : Nat → Int32} {pre : List (Nat × Nat)} {q : Nat × Nat} (hp : p < 256) (hl : (pre ++ [q]).length ≤ 8) (hle : len p = nI (pre ++ [q]).length) (hok : okL (pre ++ [q])) (hc : cwd code (8 * p) (pre ++ [q])) :
    fX0_sizeOf (code, len, beh, siz, ser, exP, lnk, limit, blocks, filled, trl, fls, dead) (nI p) = some (nI ((if leaB q.1 = true then 0 else 1) + szC (pre ++ [q]))) := by
  have hq := hok q (by simp)
  have hll : (pre ++ [q]).length = pre.length + 1 := by simp
  have hlk : fX0_lastKind (code, len, beh, siz, ser, exP, lnk, limit, blocks, filled, trl, fls, dead) (nI p) = some (nI (kC q.1)) := by
    rw [fX0_lastKind_e, pIn_n hp (by omega), cl_n (by omega), show gC_length (code, len, beh, siz, ser, exP, lnk, limit, blocks, filled, trl, fls, dead) p = nI (pre ++ [q]).length from hle, hll]
    rw [if_neg (show ¬ nI (pre.length + 1) = 0 from fun z => by have := nI_inj (b := 0) (by omega) (by omega) z; omega), pIn_n hp (by omega)]
    rw [show nI (pre.length + 1) - 1 = nI pre.length by rw [show (1 : Int32) = nI 1 from rfl, pk_sub (by omega)]; rfl, word_e hp (by omega), pB_e2]
    simp only [pLet_e]
    rw [cwd_at pre q [] _ hc, w_kind hq.1 hq.2]
  rw [fX0_sizeOf_e, hlk, pB_e2, pLet_e, t_lea q.1 hq.1]
  have hfu : 8 < fuelX0_sizeOf_19 := by unfold fuelX0_sizeOf_19; omega
  have lp : ∀ s, fX0_sizeOf_b16 (code, len, beh, siz, ser, exP, lnk, limit, blocks, filled, trl, fls, dead) (nI p) (nI s) = some (nI (s + szC (pre ++ [q]))) := by
    intro s
    rw [fX0_sizeOf_b16]
    generalize fuelX0_sizeOf_19 = fu at hfu ⊢
    exact sz_loop hp fu (pre ++ [q]) 0 s (by omega) (by omega) (by rw [Nat.zero_add]; exact hle) hok hc
  cases leaB q.1
  · exact lp 1
  · exact lp 0
theorem le_e {code : Nat → Int32} {pre : List (Nat × Nat)} {q : Nat × Nat} (hp : p < 256) (hl : (pre ++ [q]).length ≤ 8) (hle : len p = nI (pre ++ [q]).length) (hok : okL (pre ++ [q])) (hc : cwd code (8 * p) (pre ++ [q])) :
    fX0_layExits (code, len, beh, siz, ser, exP, lnk, limit, blocks, filled, trl, fls, dead) (nI p) = some (code, len, beh, siz, ser, upd (upd exP (2 * p) (if leaB q.1 = true ∧ bytB q.1 = 2 then nI q.2 else -1)) (2 * p + 1) (if kC q.1 = 24 ∨ kC q.1 = 29 ∨ leaB q.1 = false then beh p else -1), upd (upd lnk (2 * p) 0) (2 * p + 1) 0, limit, blocks, filled, trl, fls, dead) := by
  have hq := hok q (by simp)
  have hk30 := (kC_eq q.1 hq.1).2
  have hll : (pre ++ [q]).length = pre.length + 1 := by simp
  have e2 : (2 : Int32) * nI p = nI (2 * p) := pk_mul 2 p
  have e3 : nI (2 * p) + 1 = nI (2 * p + 1) := nI_1 _
  have b112 : ∀ (X : Nat → Int32) (y : Int32), fX0_layExits_b112 (code, len, beh, siz, ser, X, lnk, limit, blocks, filled, trl, fls, dead) (nI p) y (nI (2 * p + 1)) = some (code, len, beh, siz, ser, upd X (2 * p + 1) y, upd (upd lnk (2 * p) 0) (2 * p + 1) 0, limit, blocks, filled, trl, fls, dead) := by
    intro X y
    rw [fX0_layExits_b112_e, pIn_n (by omega) (by omega), cl_n (by omega), pLet_e, e2, pIn_n (by omega) (by omega), cl_n (by omega), pLet_e, e3, pIn_n (by omega) (by omega), cl_n (by omega), pLet_e]
    rfl
  have b87 : ∀ (m : Bool) (x : Int32), fX0_layExits_b87 (code, len, beh, siz, ser, exP, lnk, limit, blocks, filled, trl, fls, dead) (nI p) (bI m) x (nI (2 * p)) = some (code, len, beh, siz, ser, upd (upd exP (2 * p) x) (2 * p + 1) (if m = true then beh p else -1), upd (upd lnk (2 * p) 0) (2 * p + 1) 0, limit, blocks, filled, trl, fls, dead) := by
    intro m x
    rw [fX0_layExits_b87_e, pIn_n (by omega) (by omega), cl_n (by omega), pLet_e, e2, e3]
    cases m
    · rw [if_pos (show bI false = 0 from rfl), if_neg (by decide)]
      exact b112 _ _
    · rw [if_neg (show ¬ bI true = 0 by decide), if_pos rfl, pIn_n (by omega) (by omega), cl_n (by omega)]
      exact b112 _ _
  have b65 : ∀ (m g : Bool), fX0_layExits_b65 (code, len, beh, siz, ser, exP, lnk, limit, blocks, filled, trl, fls, dead) (nI p) (nI (wd q.1 q.2 false)) (bI g) (bI m) = some (code, len, beh, siz, ser, upd (upd exP (2 * p) (if g = true then nI q.2 else -1)) (2 * p + 1) (if m = true then beh p else -1), upd (upd lnk (2 * p) 0) (2 * p + 1) 0, limit, blocks, filled, trl, fls, dead) := by
    intro m g
    rw [fX0_layExits_b65_e, e2]
    cases g
    · rw [if_pos (show bI false = 0 from rfl), if_neg (by decide)]
      exact b87 _ _
    · rw [if_neg (show ¬ bI true = 0 by decide), if_pos rfl, pLet_e, w_n hq.1 hq.2]
      exact b87 _ _
  have b39 : ∀ (g : Bool), fX0_layExits_b39 (code, len, beh, siz, ser, exP, lnk, limit, blocks, filled, trl, fls, dead) (nI p) (nI (wd q.1 q.2 false)) (nI (kC q.1)) (bI g) = some (code, len, beh, siz, ser, upd (upd exP (2 * p) (if g = true then nI q.2 else -1)) (2 * p + 1) (if kC q.1 = 24 ∨ kC q.1 = 29 ∨ leaB q.1 = false then beh p else -1), upd (upd lnk (2 * p) 0) (2 * p + 1) 0, limit, blocks, filled, trl, fls, dead) := by
    intro g
    have t1 := b65 true g
    have t0 := b65 false g
    rw [if_pos rfl] at t1
    rw [if_neg (show ¬ false = true by decide)] at t0
    rw [fX0_layExits_b39_e]
    by_cases h1 : kC q.1 = 24
    · rw [if_pos (show nI (kC q.1) = 24 by rw [h1]; rfl), if_pos (Or.inl h1), fX0_layExits_b60_e]
      exact t1
    · rw [if_neg (show ¬ nI (kC q.1) = 24 from fun z => h1 (nI_inj (b := 24) (by omega) (by omega) z))]
      by_cases h2 : kC q.1 = 29
      · rw [if_pos (show nI (kC q.1) = 29 by rw [h2]; rfl), if_pos (Or.inr (Or.inl h2)), fX0_layExits_b60_e]
        exact t1
      · rw [if_neg (show ¬ nI (kC q.1) = 29 from fun z => h2 (nI_inj (b := 29) (by omega) (by omega) z)), pLet_e, t_lea q.1 hq.1]
        by_cases h3 : leaB q.1 = true
        · rw [if_pos h3, if_neg (show ¬ (1 : Int32) = 0 by decide), if_neg (show ¬ (kC q.1 = 24 ∨ kC q.1 = 29 ∨ leaB q.1 = false) by rw [h3]; simp [h1, h2])]
          exact t0
        · have h3' : leaB q.1 = false := by simpa using h3
          rw [if_neg h3, if_pos rfl, if_pos (Or.inr (Or.inr h3')), fX0_layExits_b60_e]
          exact t1
  rw [fX0_layExits_e, pIn_n hp (by omega), cl_n (by omega), show gC_length (code, len, beh, siz, ser, exP, lnk, limit, blocks, filled, trl, fls, dead) p = nI (pre ++ [q]).length from hle, hll]
  rw [show nI (pre.length + 1) - 1 = nI pre.length by rw [show (1 : Int32) = nI 1 from rfl, pk_sub (by omega)]; rfl, word_e hp (by omega), pB_e2, cwd_at pre q [] _ hc]
  rw [show (makB q.1 && man []) = false by simp [man]]
  simp only [pLet_e]
  rw [w_kind hq.1 hq.2, t_lea q.1 hq.1, (t_byt q.1 hq.1).1]
  have t0 := b39 false
  have t1 := b39 true
  by_cases h3 : leaB q.1 = true
  · rw [if_pos h3, if_neg (show ¬ (1 : Int32) = 0 by decide)]
    by_cases h4 : bytB q.1 = 2
    · rw [if_pos (show nI (bytB q.1) = 2 by rw [h4]; rfl), if_pos ⟨h3, h4⟩]
      exact t1
    · rw [if_neg (show ¬ nI (bytB q.1) = 2 from fun z => h4 (nI_inj (b := 2) (by have := (t_byt q.1 hq.1).2; omega) (by omega) z)), if_neg (fun z => h4 z.2), fX0_layExits_b38_e]
      exact t0
  · rw [if_neg h3, if_pos rfl, if_neg (fun z => h3 z.1), fX0_layExits_b38_e]
    exact t0
end TRC2

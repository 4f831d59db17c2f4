theorem sm_zero {f : Nat → Int32} : ∀ {n : Nat}, (∀ i, i < n → f i = 0) → sm f n = 0
  | 0, _ => rfl
  | n + 1, h => by
    show sm f n + f n = 0
    rw [sm_zero (fun i hi => h i (by omega)), h n (by omega)]
    rfl
theorem cn_zero {ser siz : Nat → Int32} (h : ∀ i, i < 256 → ser i = 0) : cn ser = 0 ∧ fl ser siz = 0 := ⟨sm_zero (fun i hi => if_pos (h i hi)), sm_zero (fun i hi => if_pos (h i hi))⟩
theorem cnM_zero {S : Nat → Int32} (h : ∀ i, i < 256 → S i = 0) : cnM S = 0 ∧ flM S = 0 := ⟨sm_zero (fun i hi => if_pos (by rw [h i hi]; decide)), sm_zero (fun i hi => if_pos (by rw [h i hi]; decide))⟩
theorem fill_loop : ∀ (fu i : Nat) (f : Nat → Int32), i ≤ 256 → 256 < i + fu → ∃ f', fJ7_fill_53178_b5 256 fu f 0 (nI i) (nI 256) = some f' ∧ (∀ j, i ≤ j → j < 256 → f' j = 0) ∧ (∀ j, j < i → f' j = f j) := by
  intro fu
  induction fu with
  | zero => intro i f h1 h2; omega
  | succ fu ih =>
    intro i f h1 h2
    rw [fJ7_fill_53178_b5]
    by_cases h : i = 256
    · subst h
      rw [if_pos (nI_le (Nat.le_refl 256) (by omega))]
      exact ⟨f, rfl, fun j a b => absurd b (by omega), fun _ _ => rfl⟩
    · rw [if_neg (nI_ge (by omega) (by omega)), pIn_n (by omega) (by omega), cl_n (by omega)]
      simp only [pLet_e]
      rw [nI_1]
      obtain ⟨f', a1, a2, a3⟩ := ih (i + 1) (upd f i 0) (by omega) (by omega)
      refine ⟨f', a1, fun j b1 b2 => ?_, fun j hj => ?_⟩
      · by_cases e : j = i
        · subst e; rw [a3 j (by omega), pk_us]
        · exact a2 j (by omega) b2
      · rw [a3 j (by omega), pk_un (by omega)]
section TRC3
variable {len beh siz ser exP lnk : Nat → Int32} {limit blocks filled trl fls dead : Int32} {p : Nat}
theorem empty_c {code : Nat → Int32} : ∃ ser', (∀ j, j < 256 → ser' j = 0) ∧ fX0_empty (code, len, beh, siz, ser, exP, lnk, limit, blocks, filled, trl, fls, dead) = some (code, len, beh, siz, ser', exP, lnk, limit, 0, 0, trl, fls, dead) := by
  have hfu : 256 < fuelJ7_fill_53178_5 := by unfold fuelJ7_fill_53178_5; omega
  obtain ⟨f', a1, a2, a3⟩ := fill_loop fuelJ7_fill_53178_5 0 ser (by omega) (by omega)
  refine ⟨f', fun j hj => a2 j (by omega) hj, ?_⟩
  have e : fJ7_fill_53178 256 ser 0 = some f' := by
    rw [fJ7_fill_53178, pLet_e]
    exact a1
  rw [fX0_empty_e, show gC_serial (code, len, beh, siz, ser, exP, lnk, limit, blocks, filled, trl, fls, dead) = ser from rfl, e, pB_e2]
  simp only [pLet_e]
  rfl
/-- the first half: what is laid down before it is known whether the block is kept -/
theorem tr_pre {mem code : Nat → Int32} {pre : List (Nat × Nat)} {q : Nat × Nat} {Z : Nat} (hm : ∀ i, isB (mem i)) (hp : p < 256) (hl : dcl mem 8 p = pre ++ [q]) (hZ : Z = (if leaB q.1 = true then 0 else 1) + szC (pre ++ [q])) :
    ∃ code', (∀ j, (j < 8 * p ∨ 8 * p + 8 ≤ j) → code' j = code j) ∧ cwd code' (8 * p) (pre ++ [q]) ∧
      fX0_translate (code, len, beh, siz, ser, exP, lnk, limit, blocks, filled, trl, fls, dead) mem (nI p) =
        if nI Z ≤ limit then (if filled + nI Z ≤ limit then fX0_translate_b79 (code', upd len p (nI (pre ++ [q]).length), upd beh p (nI ((p + nby (pre ++ [q])) % 256)), upd siz p (nI Z), ser, exP, lnk, limit, blocks, filled, trl, fls, dead) mem (nI p) (nI (ndd (pre ++ [q])))
          else pB (fX0_empty (code', upd len p (nI (pre ++ [q]).length), upd beh p (nI ((p + nby (pre ++ [q])) % 256)), upd siz p (nI Z), ser, exP, lnk, limit, blocks, filled, trl, fls, dead)) (fun z => pLet (sC_flushes z (gC_flushes z + 1)) (fun u => fX0_translate_b79 u mem (nI p) (nI (ndd (pre ++ [q]))))))
        else some (0, (code', upd len p (nI (pre ++ [q]).length), upd beh p (nI ((p + nby (pre ++ [q])) % 256)), upd siz p (nI Z), ser, exP, lnk, limit, blocks, filled, trl, fls, dead)) := by
  have h8 := dcl_len (m := mem) 8 p
  have hok := mt_ok _ (dcl_mt hm 8 p)
  obtain ⟨c1, a1, a2, a3⟩ := dec_e (len := len) (beh := beh) (siz := siz) (ser := ser) (exP := exP) (lnk := lnk) (limit := limit) (blocks := blocks) (filled := filled) (trl := trl) (fls := fls) (dead := dead) (code := code) hm hp
  rw [hl] at a1 a3 h8 hok
  obtain ⟨c2, b1, b2, b3⟩ := md_e (len := upd len p (nI (pre ++ [q]).length)) (beh := upd beh p (nI ((p + nby (pre ++ [q])) % 256))) (siz := siz) (ser := ser) (exP := exP) (lnk := lnk) (limit := limit) (blocks := blocks) (filled := filled) (trl := trl) (fls := fls) (dead := dead) hp h8 pk_us hok a3
  have d1 := so_e (len := upd len p (nI (pre ++ [q]).length)) (beh := upd beh p (nI ((p + nby (pre ++ [q])) % 256))) (siz := siz) (ser := ser) (exP := exP) (lnk := lnk) (limit := limit) (blocks := blocks) (filled := filled) (trl := trl) (fls := fls) (dead := dead) hp h8 pk_us hok b3
  rw [← hZ] at d1
  refine ⟨c2, fun j hj => by rw [b2 j hj, a2 j hj], b3, ?_⟩
  rw [fX0_translate_e, a1, pB_e2, b1, pB_e2, d1, pB_e2, pIn_n hp (by omega), cl_n (by omega)]
  simp only [pLet_e]
  rw [pIn_n hp (by omega)]
  have hll : (pre ++ [q]).length = pre.length + 1 := by simp
  have z0 : ¬ gC_length (sC_size (c2, upd len p (nI (pre ++ [q]).length), upd beh p (nI ((p + nby (pre ++ [q])) % 256)), siz, ser, exP, lnk, limit, blocks, filled, trl, fls, dead) (upd (gC_size (c2, upd len p (nI (pre ++ [q]).length), upd beh p (nI ((p + nby (pre ++ [q])) % 256)), siz, ser, exP, lnk, limit, blocks, filled, trl, fls, dead)) p (nI Z))) p = 0 := by
    show ¬ upd len p (nI (pre ++ [q]).length) p = 0
    rw [pk_us, hll]
    exact fun z => by have := nI_inj (b := 0) (by omega) (by omega) z; omega
  rw [if_neg z0, pIn_n hp (by omega), pIn_n hp (by omega)]
  have z1 : gC_size (sC_size (c2, upd len p (nI (pre ++ [q]).length), upd beh p (nI ((p + nby (pre ++ [q])) % 256)), siz, ser, exP, lnk, limit, blocks, filled, trl, fls, dead) (upd (gC_size (c2, upd len p (nI (pre ++ [q]).length), upd beh p (nI ((p + nby (pre ++ [q])) % 256)), siz, ser, exP, lnk, limit, blocks, filled, trl, fls, dead)) p (nI Z))) p = nI Z := pk_us
  rw [z1]
  rfl
theorem tr_0 {mem code : Nat → Int32} (hm : ∀ i, isB (mem i)) (hp : p < 256) (hl : dcl mem 8 p = []) :
    ∃ code' z, (∀ j, (j < 8 * p ∨ 8 * p + 8 ≤ j) → code' j = code j) ∧
      fX0_translate (code, len, beh, siz, ser, exP, lnk, limit, blocks, filled, trl, fls, dead) mem (nI p) = some (0, (code', upd len p (nI 0), upd beh p (nI p), upd siz p z, ser, exP, lnk, limit, blocks, filled, trl, fls, dead)) := by
  obtain ⟨c1, a1, a2, a3⟩ := dec_e (len := len) (beh := beh) (siz := siz) (ser := ser) (exP := exP) (lnk := lnk) (limit := limit) (blocks := blocks) (filled := filled) (trl := trl) (fls := fls) (dead := dead) (code := code) hm hp
  rw [hl] at a1 a3
  rw [show nby [] = 0 from rfl, Nat.add_zero, Nat.mod_eq_of_lt hp, show ([] : List (Nat × Nat)).length = 0 from rfl] at a1
  obtain ⟨c2, b1, b2, b3⟩ := md_e (l := []) (len := upd len p (nI 0)) (beh := upd beh p (nI p)) (siz := siz) (ser := ser) (exP := exP) (lnk := lnk) (limit := limit) (blocks := blocks) (filled := filled) (trl := trl) (fls := fls) (dead := dead) hp (by simp) pk_us (fun q hq => absurd hq List.not_mem_nil) a3
  have hlk : fX0_lastKind (c2, upd len p (nI 0), upd beh p (nI p), siz, ser, exP, lnk, limit, blocks, filled, trl, fls, dead) (nI p) = some 0 := by
    rw [fX0_lastKind_e, pIn_n hp (by omega), cl_n (by omega), show gC_length (c2, upd len p (nI 0), upd beh p (nI p), siz, ser, exP, lnk, limit, blocks, filled, trl, fls, dead) p = nI 0 from pk_us]
    rw [if_pos (show nI 0 = 0 from rfl)]
  have d1 : fX0_sizeOf (c2, upd len p (nI 0), upd beh p (nI p), siz, ser, exP, lnk, limit, blocks, filled, trl, fls, dead) (nI p) = some (nI 1) := by
    rw [fX0_sizeOf_e, hlk, pB_e2, pLet_e, if_pos (show fX1_leavesByItself 0 = 0 by decide), fX0_sizeOf_b16]
    have hfu : 8 < fuelX0_sizeOf_19 := by unfold fuelX0_sizeOf_19; omega
    generalize fuelX0_sizeOf_19 = fu at hfu ⊢
    exact sz_loop (code := c2) hp fu [] 0 1 (by simp) (by simp; omega) pk_us (fun q hq => absurd hq List.not_mem_nil) trivial
  refine ⟨c2, nI 1, fun j hj => by rw [b2 j hj, a2 j hj], ?_⟩
  rw [fX0_translate_e, a1, pB_e2, b1, pB_e2, d1, pB_e2, pIn_n hp (by omega), cl_n (by omega)]
  simp only [pLet_e]
  rw [pIn_n hp (by omega)]
  have z0 : gC_length (sC_size (c2, upd len p (nI 0), upd beh p (nI p), siz, ser, exP, lnk, limit, blocks, filled, trl, fls, dead) (upd (gC_size (c2, upd len p (nI 0), upd beh p (nI p), siz, ser, exP, lnk, limit, blocks, filled, trl, fls, dead)) p (nI 1))) p = 0 := pk_us
  rw [if_pos z0]
  rfl
theorem tr_79 {mem code : Nat → Int32} {pre : List (Nat × Nat)} {q : Nat × Nat} {D : Int32} (hp : p < 256) (hl : (pre ++ [q]).length ≤ 8) (hle : len p = nI (pre ++ [q]).length) (hok : okL (pre ++ [q])) (hc : cwd code (8 * p) (pre ++ [q])) :
    fX0_translate_b79 (code, len, beh, siz, ser, exP, lnk, limit, blocks, filled, trl, fls, dead) mem (nI p) D = some (1, (code, len, beh, siz, upd ser p (trl + 1), upd (upd exP (2 * p) (if leaB q.1 = true ∧ bytB q.1 = 2 then nI q.2 else -1)) (2 * p + 1) (if kC q.1 = 24 ∨ kC q.1 = 29 ∨ leaB q.1 = false then beh p else -1), upd (upd lnk (2 * p) 0) (2 * p + 1) 0, limit, blocks + 1, filled + siz p, trl + 1, fls, dead + D)) := by
  rw [fX0_translate_b79_e]
  simp only [pLet_e]
  rw [pIn_n hp (by omega), cl_n (by omega), pIn_n hp (by omega)]
  have e := le_e (len := len) (beh := beh) (siz := siz) (ser := upd ser p (trl + 1)) (exP := exP) (lnk := lnk) (limit := limit) (blocks := blocks + 1) (filled := filled + siz p) (trl := trl + 1) (fls := fls) (dead := dead + D) hp hl hle hok hc
  have e2 := pB_e (k := fun z_8 => some ((1 : Int32), z_8)) e
  exact e2
end TRC3
/-! the reference empties its cache -/
theorem em_loop {v : TM} : ∀ (fu p : Nat) (S C : Nat → Int32), p ≤ 256 → 256 < p + fu →
    ∃ (S' C' : Nat → Int32), fX5_empty_b2 fu (sM_counts (sM_size v S) C) (nI p) = some (sM_counts (sM_size v S') C') ∧ (∀ i, p ≤ i → i < 256 → S' i ≤ 0) ∧ (∀ i, S' i = S i ∨ S' i = 0) ∧ (∀ i, i ≠ 1 → i ≠ 2 → C' i = C i) ∧ C' 1 - cnM S' = C 1 - cnM S ∧ C' 2 - flM S' = C 2 - flM S := by
  intro fu
  induction fu with
  | zero => intro p S C h1 h2; omega
  | succ fu ih =>
    intro p S C h1 h2
    rw [fX5_empty_b2]
    by_cases h256 : p = 256
    · subst h256
      rw [if_pos (show (256 : Int32) ≤ nI 256 from nI_le (a := 256) (Nat.le_refl 256) (by omega))]
      exact ⟨S, C, rfl, fun i a b => absurd b (by omega), fun _ => Or.inl rfl, fun _ _ _ => rfl, rfl, rfl⟩
    · rw [if_neg (show ¬ (256 : Int32) ≤ nI p from nI_ge (b := 256) (by omega) (by omega))]
      have hp : p < 256 := by omega
      rw [pIn_n hp (by omega), cl_n (by omega)]
      by_cases hs : S p ≤ 0
      · rw [if_pos (show gM_size (sM_counts (sM_size v S) C) p ≤ 0 from hs), fX5_empty_b23, pLet_e, nI_1]
        obtain ⟨S', C', a1, a2, a3, a4, a5, a6⟩ := ih (p + 1) S C (by omega) (by omega)
        refine ⟨S', C', a1, fun i b1 b2 => ?_, a3, a4, a5, a6⟩
        by_cases hi : i = p
        · subst hi
          rcases a3 i with h | h
          · rw [h]; exact hs
          · rw [h]; decide
        · exact a2 i (by omega) b2
      · rw [if_neg (show ¬ gM_size (sM_counts (sM_size v S) C) p ≤ 0 from hs), remove_e hp, pB_s, fX5_empty_b23, pLet_e, nI_1]
        obtain ⟨S', C', a1, a2, a3, a4, a5, a6⟩ := ih (p + 1) (upd S p 0) (cn12 C (S p)) (by omega) (by omega)
        have k1 : cn12 C (S p) 1 = C 1 - 1 := rfl
        have k2 : cn12 C (S p) 2 = C 2 - S p := rfl
        refine ⟨S', C', a1, fun i b1 b2 => ?_, fun i => ?_, fun i b1 b2 => ?_, ?_, ?_⟩
        · by_cases hi : i = p
          · subst hi
            rcases a3 i with h | h
            · rw [h, pk_us]; decide
            · rw [h]; decide
          · exact a2 i (by omega) b2
        · rcases a3 i with h | h
          · by_cases hi : i = p
            · subst hi; rw [pk_us] at h; exact Or.inr h
            · rw [pk_un hi] at h; exact Or.inl h
          · exact Or.inr h
        · rw [a4 i b1 b2]
          show upd (upd C 1 _) 2 _ i = C i
          rw [pk_un b2, pk_un b1]
        · rw [a5, k1, cnM_upd hp hs]; grind
        · rw [a6, k2, flM_upd hp hs]; grind
theorem empty_m {v : TM} (h0 : ∀ p, p < 256 → gM_size v p ≤ 0 → gM_size v p = 0) (h1 : gM_counts v 1 = cnM (gM_size v)) (h2 : gM_counts v 2 = flM (gM_size v)) :
    ∃ S', (∀ j, j < 256 → S' j = 0) ∧ fX5_empty v = some (sM_counts (sM_size v S') (upd (upd (gM_counts v) 1 0) 2 0)) := by
  have hfu : 256 < fuelX5_empty_2 := by unfold fuelX5_empty_2; omega
  obtain ⟨S', C', a1, a2, a3, a4, a5, a6⟩ := em_loop (v := v) fuelX5_empty_2 0 (gM_size v) (gM_counts v) (by omega) (by omega)
  have hz : ∀ j, j < 256 → S' j = 0 := by
    intro j hj
    rcases a3 j with h | h
    · have := a2 j (by omega) hj
      rw [h] at this ⊢
      exact h0 j hj this
    · exact h
  have hc := cnM_zero hz
  have e4 : C' = upd (upd (gM_counts v) 1 0) 2 0 := by
    funext i
    by_cases i2 : i = 2
    · subst i2; rw [pk_us]; rw [hc.2, h2] at a6; grind
    · rw [pk_un i2]
      by_cases i1 : i = 1
      · subst i1; rw [pk_us]; rw [hc.1, h1] at a5; grind
      · rw [pk_un i1]; exact a4 i i1 i2
  refine ⟨S', hz, ?_⟩
  rw [fX5_empty, ← e4]
  exact a1

/-! the calls -/
def okU (a : Option (Int32 × TB)) (b : Option TM) (j : Nat) : Prop := ∃ (c : Int32) (B' : TB) (M' : TM), a = some (c, B') ∧ b = some M' ∧ gM_refusal M' = c ∧ ST (j + 1) B' M'
def okV (a : Option (Int32 × TB × (Nat → Int64))) (b : Option (Int32 × TM)) (j : Nat) : Prop := ∃ (c : Int32) (B' : TB) (g' : Nat → Int64) (y : Int32) (M' : TM), a = some (c, B', g') ∧ b = some (y, M') ∧ gM_refusal M' = c ∧ (c = 0 → g' 0 = y.toInt64) ∧ ST (j + 1) B' M'
theorem byt (x : Int32) : (fX4_isByte x = 0 ∧ fX5_isIn x 0 255 = 0 ∧ (x < 0 ∨ 255 < x)) ∨ ∃ a : Nat, a < 256 ∧ x = nI a ∧ fX4_isByte x = 1 ∧ fX5_isIn x 0 255 = 1 := by
  rw [fX4_isByte_e, fX5_isIn_e]
  by_cases h1 : x < 0
  · rw [if_pos h1]; exact Or.inl ⟨rfl, rfl, Or.inl h1⟩
  · by_cases h2 : 255 < x
    · rw [if_neg h1, if_pos h2]; exact Or.inl ⟨rfl, rfl, Or.inr h2⟩
    · obtain ⟨n, n1, n2, n3⟩ := bd (x := x) (a := 0) (b := 255) (by omega) h1 h2 (by omega)
      rw [if_neg h1, if_neg h2]
      exact Or.inr ⟨n, by omega, n3, rfl, rfl⟩
theorem sta (x : Int32) : (fX4_isState x = 0 ∧ fX5_isIn x 0 9 = 0) ∨ ∃ a : Nat, a < 10 ∧ x = nI a ∧ fX4_isState x = 1 ∧ fX5_isIn x 0 9 = 1 := by
  rw [fX4_isState_e, fX5_isIn_e]
  by_cases h1 : x < 0
  · rw [if_pos h1]; exact Or.inl ⟨rfl, rfl⟩
  · by_cases h2 : 9 < x
    · rw [if_neg h1, if_pos h2]; exact Or.inl ⟨rfl, rfl⟩
    · obtain ⟨n, n1, n2, n3⟩ := bd (x := x) (a := 0) (b := 9) (by omega) h1 h2 (by omega)
      rw [if_neg h1, if_neg h2]
      exact Or.inr ⟨n, by omega, n3, rfl, rfl⟩
theorem shr_eq (x s : Int32) (k : Nat) (hk : k = 0 ∨ k = 8 ∨ k = 16 ∨ k = 24) (hs1 : ((s.toUInt32 &&& Int32.toUInt32 31).toBitVec % 32).toNat = k) (hs2 : ((s &&& 31).toBitVec.smod 32).toNat = k) : ((x.toUInt32 >>> (s.toUInt32 &&& Int32.toUInt32 31)).toInt32 &&& 255) = ((x >>> (s &&& 31)) &&& 255) := by
  rw [pk_and _ 8 rfl, pk_and _ 8 rfl, pk_ushr x s k hs1]
  congr 1
  have h : (x >>> (s &&& 31)).toBitVec.toInt = x.toBitVec.toInt >>> k := pk_shr x (s &&& 31) k hs2
  have h1 := (x >>> (s &&& 31)).toBitVec.isLt
  have h2 := x.toBitVec.isLt
  rw [BitVec.toInt_eq_toNat_cond, BitVec.toInt_eq_toNat_cond, Int.shiftRight_eq_div_pow] at h
  generalize (x >>> (s &&& 31)).toBitVec.toNat = a at h h1 ⊢
  generalize x.toBitVec.toNat = b at h h2 ⊢
  rcases hk with rfl | rfl | rfl | rfl <;> simp only [Nat.reducePow] at h h1 h2 ⊢ <;> split at h <;> split at h <;> omega
theorem run_ok {j : Nat} {B : TB} {M : TM} (h : ST j B M) (hj : j < 512) (x : Int32) (g : Nat → Int64) : okV (fL_run B x g) (fX5_run M x) j := by
  have no : fX4_run B x = some (1, 0, B) → fX5_run M x = some (0, sM_refusal M 1) → okV (fL_run B x g) (fX5_run M x) j := by
    intro a b
    refine ⟨1, B, g, 0, sM_refusal M 1, ?_, b, rfl, fun z => absurd z (by decide), h.rf⟩
    rw [fL_run, a, pB_e2, if_neg (show ¬ (1 : Int32) = 0 by decide), if_pos rfl]
  by_cases i1 : x < 1
  · refine no ?_ ?_
    · rw [fX4_run_e, if_pos i1, fX4_run_b12_e]
    · rw [fX5_run_e, fX5_isIn_e, if_pos i1, pLet_e, if_pos rfl, fX5_run_b17_e, ref1, pLet_e, if_neg (show ¬ (1 : Int32) = 0 by decide)]
  · by_cases i2 : 5000 < x
    · refine no ?_ ?_
      · rw [fX4_run_e, if_neg i1, if_neg (Int32.not_le.mpr i2), fX4_run_b12_e]
      · rw [fX5_run_e, fX5_isIn_e, if_neg i1, if_pos i2, pLet_e, if_pos rfl, fX5_run_b17_e, ref1, pLet_e, if_neg (show ¬ (1 : Int32) = 0 by decide)]
    · obtain ⟨n, n1, n2, rfl⟩ := bd (x := x) (a := 1) (b := 5000) (by omega) i1 i2 (by omega)
      obtain ⟨e, T, ls, h1, h2, h3⟩ := h
      obtain ⟨B', M', e', T', ls', c1, c2, c3, c4, c5⟩ := run_in h1 n1 n2 (by omega) (by omega)
      refine ⟨0, B', vp_updL g 0 (nI (e' - e)).toInt64, nI (e' - e), M', ?_, c2, c3.rf, fun _ => pk_uLs, ST.of c3 (by omega) (by omega)⟩
      rw [fL_run, c1, pB_e2, if_pos rfl, j0]
theorem peek_ok {j : Nat} {B : TB} {M : TM} (h : ST j B M) (x : Int32) (g : Nat → Int64) : okV (fL_peek B x g) (fX5_peek M x) j := by
  rcases byt x with ⟨b1, b2, _⟩ | ⟨a, ha, rfl, b1, b2⟩
  · refine ⟨1, B, g, 0, sM_refusal M 1, ?_, ?_, rfl, fun z => absurd z (by decide), h.rf⟩
    · rw [fL_peek, fX4_peek_e, b1, pLet_e, if_pos rfl, pB_e2, if_neg (show ¬ (1 : Int32) = 0 by decide), if_pos rfl]
    · rw [fX5_peek_e, b2, pLet_e, if_pos rfl, fX5_peek_b17_e, ref1, pLet_e, if_neg (show ¬ (1 : Int32) = 0 by decide)]
  · have hs := h
    obtain ⟨e, T, ls, h1, h2, h3⟩ := h
    have hm : gG_memory (gB_guest B) = gM_memory M := h1.m
    refine ⟨0, B, vp_updL g 0 (gM_memory M a).toInt64, gM_memory M a, sM_refusal M 0, ?_, ?_, rfl, fun _ => pk_uLs, hs.rf⟩
    · rw [fL_peek, fX4_peek_e, b1, pLet_e, if_neg (show ¬ (1 : Int32) = 0 by decide), pIn_n ha (by omega), cl_n (by omega), hm, pB_e2, if_pos rfl, j0]
    · rw [fX5_peek_e, b2, pLet_e, if_neg (show ¬ (1 : Int32) = 0 by decide), fX5_peek_b17_e, ref0, pLet_e, if_pos rfl, pIn_n ha (by omega), cl_n (by omega)]
      rfl
theorem get_ok {j : Nat} {B : TB} {M : TM} (h : ST j B M) (x : Int32) (g : Nat → Int64) : okV (fL_get B x g) (fX5_get M x) j := by
  rcases sta x with ⟨b1, b2⟩ | ⟨a, ha, rfl, b1, b2⟩
  · refine ⟨1, B, g, 0, sM_refusal M 1, ?_, ?_, rfl, fun z => absurd z (by decide), h.rf⟩
    · rw [fL_get, fX4_get_e, b1, pLet_e, if_pos rfl, pB_e2, if_neg (show ¬ (1 : Int32) = 0 by decide), if_pos rfl]
    · rw [fX5_get_e, b2, pLet_e, if_pos rfl, fX5_get_b16_e, ref1, pLet_e, if_neg (show ¬ (1 : Int32) = 0 by decide)]
  · have hs := h
    obtain ⟨e, T, ls, h1, h2, h3⟩ := h
    have hm : gG_state (gB_guest B) = gM_reg M := h1.g.2 rfl
    refine ⟨0, B, vp_updL g 0 (gM_reg M a).toInt64, gM_reg M a, sM_refusal M 0, ?_, ?_, rfl, fun _ => pk_uLs, hs.rf⟩
    · rw [fL_get, fX4_get_e, b1, pLet_e, if_neg (show ¬ (1 : Int32) = 0 by decide), pIn_n ha (by omega), cl_n (by omega), hm, pB_e2, if_pos rfl, j0]
    · rw [fX5_get_e, b2, pLet_e, if_neg (show ¬ (1 : Int32) = 0 by decide), fX5_get_b16_e, ref0, pLet_e, if_pos rfl, pIn_n ha (by omega), cl_n (by omega)]
      rfl
theorem out_ok {j : Nat} {B : TB} {M : TM} (h : ST j B M) (hj : j < 512) (x : Int32) : ∃ y : Int32, fX4_output B x = some y ∧ fX5_output M x = some (y, sM_refusal M 0) := by
  obtain ⟨e, T, ls, h1, h2, h3⟩ := h
  obtain ⟨gn, g1, g2⟩ := h1.gv
  have ho : gG_outputs (gB_guest B) = gM_given M := h1.o
  have k10 : gM_counts (sM_refusal M 0) 10 = nI gn := h1.c10.trans g2
  rw [fX4_output_e, fX2_outputAt_e, fX5_output_e, pLet_e, p12_10, j10, k10, pLet_e, fX5_isIn_e, g2]
  by_cases i1 : x < 0
  · rw [if_pos i1, if_pos i1, if_pos rfl, pB_e2]
    exact ⟨_, rfl, rfl⟩
  · obtain ⟨n, hn, rfl⟩ := nI_of i1
    rw [if_neg i1, if_neg i1]
    by_cases i2 : gn ≤ n
    · have i3 : nI gn - 1 < nI n := by
        by_cases z : gn = 0
        · rw [z, show nI 0 - 1 = (-1 : Int32) from by decide, Int32.lt_iff_toInt_lt, nI_toInt hn]
          have : (-1 : Int32).toInt = -1 := by decide
          omega
        · rw [show (1 : Int32) = nI 1 from rfl, pk_sub (by omega)]
          exact nI_lt (by omega) hn
      rw [if_pos (nI_le i2 hn), if_pos i3, if_pos rfl, pB_e2]
      exact ⟨_, rfl, rfl⟩
    · have i3 : ¬ nI gn - 1 < nI n := by
        rw [show (1 : Int32) = nI 1 from rfl, pk_sub (by omega)]
        exact nI_nlt (by omega) (by omega)
      rw [if_neg (nI_ge (by omega) (by omega)), if_neg i3, if_neg (show ¬ (1 : Int32) = 0 by decide)]
      by_cases i4 : 100 ≤ nI n
      · rw [if_pos i4, if_pos i4, pB_e2]
        exact ⟨_, rfl, rfl⟩
      · have hn2 : n < 100 := Nat.lt_of_not_le fun z => i4 (nI_le (a := 100) z hn)
        rw [if_neg i4, if_neg i4, pIn_n hn2 (by omega), pIn_n hn2 (by omega), cl_n (by omega), pB_e2, ho]
        exact ⟨_, rfl, rfl⟩
theorem cnt_ok {j : Nat} {B : TB} {M : TM} (h : ST j B M) (x : Int32) (g : Nat → Int64) : okV (fL_count B x g) (fX5_count M x) j := by
  have hs := h
  obtain ⟨e, T, ls, h1, h2, h3⟩ := h
  have hcn := cn_eq h1.pb h1.tb
  have yes : ∀ (a : Nat) (v : Int32), a < 12 → x = nI a → fX4_count B x = (0, v) → gM_counts (sM_refusal M 0) a = v → okV (fL_count B x g) (fX5_count M x) j := by
    intro a v ha hx h4 h5
    subst hx
    refine ⟨0, B, vp_updL g 0 v.toInt64, v, sM_refusal M 0, ?_, ?_, rfl, fun _ => pk_uLs, hs.rf⟩
    · rw [fL_count, h4, pLet_e, if_pos rfl, j0]
    · rw [fX5_count_e, fX5_isIn_e, if_neg (show ¬ nI a < 0 from nI_nlt (b := 0) (by omega) (by omega)), if_neg (show ¬ (11 : Int32) < nI a from nI_nlt (a := 11) (by omega) (by omega)), pLet_e, if_neg (show ¬ (1 : Int32) = 0 by decide), fX5_count_b16_e, ref0, pLet_e, if_pos rfl, pIn_n ha (by omega), cl_n (by omega)]
      exact congrArg (fun z => some (z, sM_refusal M 0)) h5
  by_cases i0 : x = 0
  · exact yes 0 (gB_executed B) (by omega) i0 (by rw [fX4_count_e, if_pos i0]) (h1.c0)
  by_cases i1 : x = 1
  · exact yes 1 (gC_blocks (gB_cache B)) (by omega) i1 (by rw [fX4_count_e, if_neg i0, if_pos i1]) (h1.c1.trans (hcn.1.symm.trans h1.bl.symm))
  by_cases i2 : x = 2
  · exact yes 2 (gC_filled (gB_cache B)) (by omega) i2 (by rw [fX4_count_e, if_neg i0, if_neg i1, if_pos i2]) (h1.c2.trans (hcn.2.symm.trans h1.fi.symm))
  by_cases i3 : x = 3
  · exact yes 3 (gC_translated (gB_cache B)) (by omega) i3 (by rw [fX4_count_e, if_neg i0, if_neg i1, if_neg i2, if_pos i3]) (h1.c3)
  by_cases i4 : x = 4
  · exact yes 4 (gB_invalidated B) (by omega) i4 (by rw [fX4_count_e, if_neg i0, if_neg i1, if_neg i2, if_neg i3, if_pos i4]) (h1.c4)
  by_cases i5 : x = 5
  · exact yes 5 (gC_flushes (gB_cache B)) (by omega) i5 (by rw [fX4_count_e, if_neg i0, if_neg i1, if_neg i2, if_neg i3, if_neg i4, if_pos i5]) (h1.c5)
  by_cases i6 : x = 6
  · exact yes 6 (gB_lookups B) (by omega) i6 (by rw [fX4_count_e, if_neg i0, if_neg i1, if_neg i2, if_neg i3, if_neg i4, if_neg i5, if_pos i6]) (h1.c6)
  by_cases i7 : x = 7
  · exact yes 7 (gB_interpreted B) (by omega) i7 (by rw [fX4_count_e, if_neg i0, if_neg i1, if_neg i2, if_neg i3, if_neg i4, if_neg i5, if_neg i6, if_pos i7]) (h1.c7)
  by_cases i8 : x = 8
  · exact yes 8 (gB_interrupts B) (by omega) i8 (by rw [fX4_count_e, if_neg i0, if_neg i1, if_neg i2, if_neg i3, if_neg i4, if_neg i5, if_neg i6, if_neg i7, if_pos i8]) (h1.c8)
  by_cases i9 : x = 9
  · exact yes 9 (gC_deadFlags (gB_cache B)) (by omega) i9 (by rw [fX4_count_e, if_neg i0, if_neg i1, if_neg i2, if_neg i3, if_neg i4, if_neg i5, if_neg i6, if_neg i7, if_neg i8, if_pos i9]) (h1.c9)
  by_cases i10 : x = 10
  · exact yes 10 (gG_given (gB_guest B)) (by omega) i10 (by rw [fX4_count_e, if_neg i0, if_neg i1, if_neg i2, if_neg i3, if_neg i4, if_neg i5, if_neg i6, if_neg i7, if_neg i8, if_neg i9, if_pos i10]) (h1.c10)
  by_cases i11 : x = 11
  · exact yes 11 (gB_ending B) (by omega) i11 (by rw [fX4_count_e, if_neg i0, if_neg i1, if_neg i2, if_neg i3, if_neg i4, if_neg i5, if_neg i6, if_neg i7, if_neg i8, if_neg i9, if_neg i10, if_pos i11]) (h1.c11)
  refine ⟨1, B, g, 0, sM_refusal M 1, ?_, ?_, rfl, fun z => absurd z (by decide), hs.rf⟩
  · rw [fL_count, fX4_count_e, if_neg i0, if_neg i1, if_neg i2, if_neg i3, if_neg i4, if_neg i5, if_neg i6, if_neg i7, if_neg i8, if_neg i9, if_neg i10, if_neg i11, pLet_e, if_neg (show ¬ (1 : Int32) = 0 by decide), if_pos rfl]
  · have hin : fX5_isIn x 0 11 = 0 := by
      rw [fX5_isIn_e]
      by_cases q1 : x < 0
      · rw [if_pos q1]
      · by_cases q2 : 11 < x
        · rw [if_neg q1, if_pos q2]
        · exfalso
          obtain ⟨n, n1, n2, n3⟩ := bd (x := x) (a := 0) (b := 11) (by omega) q1 q2 (by omega)
          subst n3
          have : n = 0 ∨ n = 1 ∨ n = 2 ∨ n = 3 ∨ n = 4 ∨ n = 5 ∨ n = 6 ∨ n = 7 ∨ n = 8 ∨ n = 9 ∨ n = 10 ∨ n = 11 := by omega
          rcases this with rfl | rfl | rfl | rfl | rfl | rfl | rfl | rfl | rfl | rfl | rfl | rfl
          · exact i0 rfl
          · exact i1 rfl
          · exact i2 rfl
          · exact i3 rfl
          · exact i4 rfl
          · exact i5 rfl
          · exact i6 rfl
          · exact i7 rfl
          · exact i8 rfl
          · exact i9 rfl
          · exact i10 rfl
          · exact i11 rfl
    rw [fX5_count_e, hin, pLet_e, if_pos rfl, fX5_count_b16_e, ref1, pLet_e, if_neg (show ¬ (1 : Int32) = 0 by decide)]

/-! the law's loop -/
theorem qr0 (N : Nat) (hN : 0 < N) : QR N iQ (fun _ => 0) 0 := ⟨0, 0, hN, by omega, rfl, rfl, rfl, fun i hi => absurd hi (by omega)⟩
theorem bi0 : BI (fun _ => 0) := ⟨fun _ => ⟨0, by omega, rfl⟩, Or.inl rfl, Or.inl rfl, Or.inl rfl, Or.inl rfl⟩
theorem rs0 : RS true 0 0 (fun _ => []) iB iM := by
  have z1 := cn_zero (ser := fun _ => 0) (siz := fun _ => 0) (fun j _ => rfl)
  have z2 := cnM_zero (S := fun _ => 0) (fun j _ => rfl)
  exact ⟨⟨fun _ _ _ _ => rfl, fun _ => rfl⟩, bi0, bi0, rfl, fun _ => ⟨0, by omega, rfl⟩, rfl, qr0 32 (by omega), fun _ _ _ _ _ => ⟨0, by omega, rfl⟩, rfl, ⟨0, Nat.le_refl _, rfl⟩, rfl, qr0 16 (by omega), rfl, rfl, z2.1.symm, z2.2.symm, rfl, rfl, rfl, rfl, rfl, rfl, rfl, rfl, rfl, rfl, rfl, by omega, ⟨100, by omega, by omega, rfl, rfl⟩, z1.1.symm, z1.2.symm, fun p hp => Or.inl ⟨rfl, rfl⟩, rfl⟩
theorem p01 {β : Type} {k : Option β} : pIn (0 : Int32) 1 k = k := pIn_l (by decide)
theorem lcond {L j : Nat} (hL : L ≤ 2048) (hj : j ≤ 512) : (Int32.ofNat L - 4 < nI (4 * j)) ↔ L < 4 * j + 4 := by
  have h := pk_sub_toInt (a := L) (b := 4) (by omega) (by omega)
  rw [Int32.lt_iff_toInt_lt, show (Int32.ofNat L - 4).toInt = (L : Int) - 4 from h, nI_toInt (by omega)]
  omega
theorem law_go {L : Nat} {xs : Nat → Int32} (hL : L ≤ 2048) : ∀ (n nn j : Nat) (B : TB) (M : TM) (gg : Nat → Int64), ST j B M → j + n = 512 → n < nn → fL_law_b23 L xs nn B M gg (nI (4 * j)) = some 1 := by
  intro n
  induction n with
  | zero =>
    intro nn j B M gg h h1 h2
    obtain ⟨nn, rfl⟩ : ∃ m, nn = m + 1 := ⟨nn - 1, by omega⟩
    rw [fL_law_b23, if_pos ((lcond hL (by omega)).mpr (by omega))]
  | succ n ih =>
    intro nn j B M gg h h1 h2
    obtain ⟨nn, rfl⟩ : ∃ m, nn = m + 1 := ⟨nn - 1, by omega⟩
    by_cases hc : L < 4 * j + 4
    · rw [fL_law_b23, if_pos ((lcond hL (by omega)).mpr hc)]
    · have e1 : nI (4 * j) + 1 = nI (4 * j + 1) := nI_1 _
      have e2 : nI (4 * j) + 2 = nI (4 * j + 2) := nI_add _ 2
      have e3 : nI (4 * j) + 3 = nI (4 * j + 3) := nI_add _ 3
      have e4 : nI (4 * j) + 4 = nI (4 * (j + 1)) := by rw [show 4 * (j + 1) = 4 * j + 4 by omega]; exact nI_add _ 4
      have p0 : ∀ {β : Type} (k : Option β), pIn (nI (4 * j)) L k = k := fun k => pIn_n (by omega) (by omega)
      have p1 : ∀ {β : Type} (k : Option β), pIn (nI (4 * j + 1)) L k = k := fun k => pIn_n (by omega) (by omega)
      have p2 : ∀ {β : Type} (k : Option β), pIn (nI (4 * j + 2)) L k = k := fun k => pIn_n (by omega) (by omega)
      have p3 : ∀ {β : Type} (k : Option β), pIn (nI (4 * j + 3)) L k = k := fun k => pIn_n (by omega) (by omega)
      have nx : ∀ (B : TB) (M : TM) (gg : Nat → Int64), ST (j + 1) B M → fL_law_b23 L xs nn B M gg (nI (4 * (j + 1))) = some 1 := fun B M gg hh => ih nn (j + 1) B M gg hh (by omega) (by omega)
      rw [fL_law_b23, if_neg (fun z => hc ((lcond hL (by omega)).mp z)), p0, pLet_e]
      simp only [e1, e2, e3, e4, p1, p2, p3]
      generalize xs (nI (4 * j)).toNatClampNeg &&& 15 = op
      generalize xs (nI (4 * j + 1)).toNatClampNeg = y1
      generalize xs (nI (4 * j + 2)).toNatClampNeg = y2
      generalize xs (nI (4 * j + 3)).toNatClampNeg = y3
      by_cases o0 : op = 0
      · rw [if_pos o0]
        obtain ⟨c, B', M', a1, a2, a3, a4⟩ := poke_ok h y1 y2 y3
        rw [a1, pB_e2, a2, pB_e2, fX5_thrown_e, pLet_e, if_pos a3]
        exact nx B' M' gg a4
      rw [if_neg o0]
      by_cases o1 : op = 1
      · rw [if_pos o1]
        obtain ⟨c, B', g', y, M', a1, a2, a3, a5, a4⟩ := peek_ok h y1 gg
        rw [a1, pB_e2, a2, pB_e2, fX5_thrown_e, pLet_e, if_pos a3]
        by_cases hz : c = 0
        · rw [if_pos hz, p01, j0, if_pos ((lg_cmp_eq _ _).mpr (a5 hz))]
          exact nx B' M' g' a4
        · rw [if_neg hz]
          exact nx B' M' g' a4
      rw [if_neg o1]
      by_cases o2 : op = 2
      · rw [if_pos o2]
        obtain ⟨c, B', M', a1, a2, a3, a4⟩ := set_ok h y1 y2
        rw [a1, pB_e2, a2, pB_e2, fX5_thrown_e, pLet_e, if_pos a3]
        exact nx B' M' gg a4
      rw [if_neg o2]
      by_cases o3 : op = 3
      · rw [if_pos o3]
        obtain ⟨c, B', g', y, M', a1, a2, a3, a5, a4⟩ := get_ok h y1 gg
        rw [a1, pB_e2, a2, pB_e2, fX5_thrown_e, pLet_e, if_pos a3]
        by_cases hz : c = 0
        · rw [if_pos hz, p01, j0, if_pos ((lg_cmp_eq _ _).mpr (a5 hz))]
          exact nx B' M' g' a4
        · rw [if_neg hz]
          exact nx B' M' g' a4
      rw [if_neg o3]
      by_cases o4 : op = 4
      · rw [if_pos o4]
        obtain ⟨c, B', g', y, M', a1, a2, a3, a5, a4⟩ := inp_ok h y1 gg
        rw [a1, pB_e2, a2, pB_e2, fX5_thrown_e, pLet_e, if_pos a3]
        by_cases hz : c = 0
        · rw [if_pos hz, p01, j0, if_pos ((lg_cmp_eq _ _).mpr (a5 hz))]
          exact nx B' M' g' a4
        · rw [if_neg hz]
          exact nx B' M' g' a4
      rw [if_neg o4]
      by_cases o5 : op = 5
      · rw [if_pos o5]
        obtain ⟨c, B', g', y, M', a1, a2, a3, a5, a4⟩ := rq_ok h y1 gg
        rw [a1, pB_e2, a2, pB_e2, fX5_thrown_e, pLet_e, if_pos a3]
        by_cases hz : c = 0
        · rw [if_pos hz, p01, j0, if_pos ((lg_cmp_eq _ _).mpr (a5 hz))]
          exact nx B' M' g' a4
        · rw [if_neg hz]
          exact nx B' M' g' a4
      rw [if_neg o5]
      by_cases o6 : op = 6
      · rw [if_pos o6]
        obtain ⟨c, B', M', a1, a2, a3, a4⟩ := room_ok h y1
        rw [a1, pB_e2, a2, pB_e2, fX5_thrown_e, pLet_e, if_pos a3]
        exact nx B' M' gg a4
      rw [if_neg o6]
      by_cases o7 : op = 7
      · rw [if_pos o7]
        obtain ⟨c, B', g', y, M', a1, a2, a3, a5, a4⟩ := run_ok h (by omega) y1 gg
        rw [a1, pB_e2, a2, pB_e2, fX5_thrown_e, pLet_e, if_pos a3]
        by_cases hz : c = 0
        · rw [if_pos hz, p01, j0, if_pos ((lg_cmp_eq _ _).mpr (a5 hz))]
          exact nx B' M' g' a4
        · rw [if_neg hz]
          exact nx B' M' g' a4
      rw [if_neg o7]
      by_cases o8 : op = 8
      · rw [if_pos o8]
        obtain ⟨y, a1, a2⟩ := out_ok h (by omega) y1
        rw [a1, pB_e2, a2, pB_e2, if_pos rfl]
        exact nx B (sM_refusal M 0) gg h.rf
      rw [if_neg o8]
      by_cases o9 : op = 9
      · rw [if_pos o9]
        obtain ⟨c, B', g', y, M', a1, a2, a3, a5, a4⟩ := cnt_ok h y1 gg
        rw [a1, pB_e2, a2, pB_e2, fX5_thrown_e, pLet_e, if_pos a3]
        by_cases hz : c = 0
        · rw [if_pos hz, p01, j0, if_pos ((lg_cmp_eq _ _).mpr (a5 hz))]
          exact nx B' M' g' a4
        · rw [if_neg hz]
          exact nx B' M' g' a4
      rw [if_neg o9]
      refine nx B M gg ?_
      obtain ⟨e, T, ls, q1, q2, q3⟩ := h
      exact ⟨e, T, ls, q1, by omega, by omega⟩
theorem law_pure (L : Nat) (xs : Nat → Int32) (hL : L ≤ 2048) : fL_law_b23 L xs 513 iB iM (fun _ => 0) 0 = some 1 :=
  law_go hL 512 513 0 iB iM (fun _ => 0) (ST.of rs0 (by omega) (by omega)) (by omega) (by omega)

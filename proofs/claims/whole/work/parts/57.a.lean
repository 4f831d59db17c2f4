/-! queues: the class's ring and the reference's row -/
def QR (N : Nat) (q : TQ) (arr : Nat → Int32) (many : Int32) : Prop := ∃ s k, s < N ∧ k ≤ N ∧ gQ_start q = nI s ∧ gQ_many q = nI k ∧ many = nI k ∧ ∀ i, i < k → gQ_ring q ((s + i) % N) = arr i
theorem wrap_e {N j : Nat} {u : TQ} (hN : N ≤ 32) (hj : j < 2 * N) : fX3_wrapped N u (nI j) = nI (j % N) := by
  rw [fX3_wrapped_e]
  by_cases h : N ≤ j
  · rw [if_pos (show Int32.ofNat N ≤ nI j from nI_le (a := N) h (by omega)), show Int32.ofNat N = nI N from rfl, pk_sub h]
    congr 1
    rw [Nat.mod_eq_sub_mod h, Nat.mod_eq_of_lt (by omega)]
  · rw [if_neg (show ¬ Int32.ofNat N ≤ nI j from nI_ge (b := N) (by omega) (by omega)), Nat.mod_eq_of_lt (by omega)]
theorem qr_first {N : Nat} {q : TQ} {arr : Nat → Int32} {k : Nat} (hN : N ≤ 32) (h : QR N q arr (nI k)) (hk : 0 < k) (hk2 : k < 2 ^ 31) : fX3_first N q = some (arr 0) := by
  obtain ⟨s, k', hs, hk', e1, e2, e3, e4⟩ := h
  have : k = k' := nI_inj hk2 (by omega) e3
  subst this
  rw [fX3_first_e, e1, pIn_n hs (by omega), cl_n (by omega), ← e4 0 hk, Nat.add_zero, Nat.mod_eq_of_lt hs]
theorem qr_at {N : Nat} {q : TQ} {arr : Nat → Int32} {k i : Nat} (hN : N ≤ 32) (h : QR N q arr (nI k)) (hi : i < k) (hk2 : k < 2 ^ 31) : fX3_at N q (nI i) = some (arr i) := by
  obtain ⟨s, k', hs, hk', e1, e2, e3, e4⟩ := h
  have : k = k' := nI_inj hk2 (by omega) e3
  subst this
  rw [fX3_at_e, e1, nI_add, wrap_e hN (by omega), pLet_e, pIn_n (Nat.mod_lt _ (by omega)) (by omega), cl_n (by have := Nat.mod_lt (s + i) (show 0 < N by omega); omega), e4 i hi]
theorem qr_take {N : Nat} {q : TQ} {arr : Nat → Int32} {k : Nat} (hN : N ≤ 32) (h : QR N q arr (nI k)) (hk : 0 < k) (hk2 : k < 2 ^ 31) : ∃ q', fX3_takeFirst N q = some (arr 0, q') ∧ ∀ arr' : Nat → Int32, (∀ i, i < k - 1 → arr' i = arr (i + 1)) → QR N q' arr' (nI (k - 1)) := by
  obtain ⟨s, k', hs, hk', e1, e2, e3, e4⟩ := h
  have : k = k' := nI_inj hk2 (by omega) e3
  subst this
  have ew : fX3_wrapped N q (nI s + 1) = nI ((s + 1) % N) := by rw [nI_1, wrap_e hN (by omega)]
  refine ⟨(gQ_ring q, nI ((s + 1) % N), nI (k - 1)), ?_, fun arr' ha => ?_⟩
  · rw [fX3_takeFirst_e, e1, pIn_n hs (by omega), cl_n (by omega)]
    simp only [pLet_e]
    rw [ew]
    have e5 := e4 0 hk
    rw [Nat.add_zero, Nat.mod_eq_of_lt hs] at e5
    rw [e5]
    have e6 : gQ_many (sQ_start q (nI ((s + 1) % N))) - 1 = nI (k - 1) := by
      show gQ_many q - nI 1 = _
      rw [e2, pk_sub (by omega)]
    rw [e6]
    rfl
  · refine ⟨(s + 1) % N, k - 1, Nat.mod_lt _ (by omega), by omega, rfl, rfl, rfl, fun i hi => ?_⟩
    rw [ha i hi, ← e4 (i + 1) (by omega)]
    show gQ_ring q _ = gQ_ring q _
    congr 1
    rw [Nat.mod_add_mod]
    congr 1
    omega
theorem qr_app {N : Nat} {q : TQ} {arr : Nat → Int32} {k : Nat} {x : Int32} (hN : N ≤ 32) (h : QR N q arr (nI k)) (hk : k < N) : ∃ q', fX3_append N q x = some q' ∧ QR N q' (upd arr k x) (nI (k + 1)) := by
  obtain ⟨s, k', hs, hk', e1, e2, e3, e4⟩ := h
  have : k = k' := nI_inj (by omega) (by omega) e3
  subst this
  refine ⟨(upd (gQ_ring q) ((s + k) % N) x, nI s, nI (k + 1)), ?_, ?_⟩
  · rw [fX3_append_e, e1, e2, nI_add, wrap_e hN (by omega), pLet_e, pIn_n (Nat.mod_lt _ (by omega)) (by omega), cl_n (by have := Nat.mod_lt (s + k) (show 0 < N by omega); omega)]
    simp only [pLet_e]
    have e6 : gQ_many (sQ_ring q (upd (gQ_ring q) ((s + k) % N) x)) + 1 = nI (k + 1) := by
      show gQ_many q + 1 = _
      rw [e2, nI_1]
    rw [e6]
    have e7 : gQ_start q = q.2.1 := rfl
    rw [e7] at e1
    show some ((_, q.2.1, _) : TQ) = _
    rw [e1]
    rfl
  · refine ⟨s, k + 1, hs, by omega, rfl, rfl, rfl, fun i hi => ?_⟩
    show upd (gQ_ring q) ((s + k) % N) x _ = _
    by_cases e : i = k
    · subst e; rw [pk_us, pk_us]
    · rw [pk_un e, pk_un, e4 i (by omega)]
      intro z
      have a1 := Nat.div_add_mod (s + i) N
      have a2 := Nat.div_add_mod (s + k) N
      rw [z] at a1
      have a3 : i < k := by omega
      have a4 : N * ((s + k) / N) = N * ((s + i) / N) + (k - i) := by omega
      have a5 : (s + i) / N < (s + k) / N := by
        apply Nat.lt_of_not_le
        intro q
        have := Nat.mul_le_mul_left N q
        omega
      have a6 : N * ((s + i) / N + 1) ≤ N * ((s + k) / N) := Nat.mul_le_mul_left N a5
      rw [Nat.mul_add] at a6
      omega
theorem qr_full {N : Nat} {q : TQ} {arr : Nat → Int32} {k : Nat} (hN : N ≤ 32) (h : QR N q arr (nI k)) (hk2 : k < 2 ^ 31) : fX3_isFull N q = if k < N then 0 else 1 := by
  obtain ⟨s, k', hs, hk', e1, e2, e3, e4⟩ := h
  have : k = k' := nI_inj hk2 (by omega) e3
  subst this
  rw [fX3_isFull_e, e2]
  by_cases h : k < N
  · rw [if_pos h, if_pos (show nI k < Int32.ofNat N from nI_lt (b := N) h (by omega))]
  · rw [if_neg h, if_neg (show ¬ nI k < Int32.ofNat N from nI_nlt (b := N) (by omega) (by omega))]
/-- the reference's row moves up by one -/
theorem rc_loop {v : TM} : ∀ (fu i k : Nat) (inp : Nat → Int32), k ≤ 31 → i ≤ k → k < i + fu → gM_inputMany v = nI k →
    ∃ inp' : Nat → Int32, fX5_receive_b38 fu (sM_inputs v inp) (nI i) = some (sM_inputs v inp') ∧ (∀ j, j < i → inp' j = inp j) ∧ ∀ j, i ≤ j → j < k → inp' j = inp (j + 1) := by
  intro fu
  induction fu with
  | zero => intro i k inp h0 h1 h2; omega
  | succ fu ih =>
    intro i k inp h0 h1 h2 hk
    rw [fX5_receive_b38]
    have e0 : gM_inputMany (sM_inputs v inp) = nI k := hk
    rw [e0]
    by_cases h : i = k
    · subst h
      rw [if_pos (nI_le (Nat.le_refl i) (by omega))]
      exact ⟨inp, rfl, fun _ _ => rfl, fun j a b => absurd b (by omega)⟩
    · rw [if_neg (nI_ge (by omega) (by omega)), nI_1, pIn_n (by omega) (by omega), pIn_n (by omega) (by omega)]
      simp only [pLet_e]
      rw [cl_n (by omega), cl_n (by omega)]
      obtain ⟨inp', a1, a2, a3⟩ := ih (i + 1) k (upd inp i (inp (i + 1))) h0 (by omega) (by omega) hk
      refine ⟨inp', a1, fun j hj => ?_, fun j b1 b2 => ?_⟩
      · rw [a2 j (by omega), pk_un (by omega)]
      · by_cases e : j = i
        · subst e; rw [a2 j (by omega), pk_us]
        · rw [a3 j (by omega) b2, pk_un (by omega)]
theorem receive_e {v : TM} {k : Nat} (hk : k ≤ 32) (hm : gM_inputMany v = nI k) : ∃ inp' : Nat → Int32,
    fX5_receive v = some (sM_inputs (sM_inputMany (sM_reg v (upd (gM_reg v) 0 (if k = 0 then 0 else gM_inputs v 0))) (nI (k - 1))) inp') ∧ ∀ j, j < k - 1 → inp' j = gM_inputs v (j + 1) := by
  rw [fX5_receive, p10_0]
  have e0 : gM_inputMany (sM_reg v (upd (gM_reg v) 0 0)) = nI k := hm
  simp only [pLet_e, j0]
  rw [e0]
  by_cases h : k = 0
  · subst h
    rw [if_pos (show nI 0 ≤ 0 by decide)]
    refine ⟨gM_inputs v, ?_, fun j hj => absurd hj (by omega)⟩
    rw [if_pos rfl]
    have : nI (0 - 1) = gM_inputMany v := by rw [hm]
    rw [this]
    rfl
  · rw [if_neg (show ¬ nI k ≤ 0 from nI_ge (a := 0) (by omega) (by omega)), pIn_l (by decide), p10_0, if_neg h]
    have hfu : 64 < fuelX5_receive_38 := by unfold fuelX5_receive_38; omega
    generalize fuelX5_receive_38 = fu at hfu ⊢
    have e1 : gM_inputMany (sM_reg (sM_reg v (upd (gM_reg v) 0 0)) (upd (gM_reg (sM_reg v (upd (gM_reg v) 0 0))) 0 (gM_inputs (sM_reg v (upd (gM_reg v) 0 0)) 0))) - 1 = nI (k - 1) := by
      show gM_inputMany v - nI 1 = _
      rw [hm, pk_sub (by omega)]
    rw [e1]
    have e2 : upd (upd (gM_reg v) 0 0) 0 (gM_inputs v 0) = upd (gM_reg v) 0 (gM_inputs v 0) := by
      funext i
      by_cases q : i = 0
      · subst q; rw [pk_us, pk_us]
      · rw [pk_un q, pk_un q, pk_un q]
    obtain ⟨inp', a1, a2, a3⟩ := rc_loop (v := sM_inputMany (sM_reg v (upd (gM_reg v) 0 (gM_inputs v 0))) (nI (k - 1))) fu 0 (k - 1) (gM_inputs v) (by omega) (by omega) (by omega) rfl
    refine ⟨inp', ?_, fun j hj => a3 j (by omega) hj⟩
    rw [← a1]
    show fX5_receive_b38 fu (sM_inputMany (sM_reg v (upd (upd (gM_reg v) 0 0) 0 (gM_inputs v 0))) (nI (k - 1))) 0 = _
    rw [e2]
    rfl

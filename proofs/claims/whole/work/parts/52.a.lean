/-! what an instruction is, by its first byte: the class's tables and the reference's -/
def bytB (b : Nat) : Nat := (fX1_bytes (nI (kC b))).toNatClampNeg
def makB (b : Nat) : Bool := decide (¬ fX1_makesFlags (nI (kC b)) = 0)
def endB (b : Nat) : Bool := decide (¬ fX1_endsBlock (nI (kC b)) = 0)
def leaB (b : Nat) : Bool := decide (¬ fX1_leavesByItself (nI (kC b)) = 0)
def neeB (b : Nat) : Bool := decide (¬ fX1_needsFlags (nI (kC b)) = 0)
def cmpB (b : Nat) : Bool := decide (¬ fX1_onlyCompares (nI (kC b)) = 0)
def swfB (b : Nat) : Nat := (fX1_sizeWithoutFlags (nI (kC b))).toNatClampNeg
set_option maxRecDepth 100000 in
theorem t_byt : ∀ b, b < 256 → fX1_bytes (nI (kC b)) = nI (bytB b) ∧ (bytB b = 1 ∨ bytB b = 2) := all256 (by decide +kernel)
set_option maxRecDepth 100000 in
theorem t_mak : ∀ b, b < 256 → fX1_makesFlags (nI (kC b)) = if makB b then 1 else 0 := all256 (by decide +kernel)
set_option maxRecDepth 100000 in
theorem t_end : ∀ b, b < 256 → fX1_endsBlock (nI (kC b)) = if endB b then 1 else 0 := all256 (by decide +kernel)
set_option maxRecDepth 100000 in
theorem t_lea : ∀ b, b < 256 → fX1_leavesByItself (nI (kC b)) = if leaB b then 1 else 0 := all256 (by decide +kernel)
set_option maxRecDepth 100000 in
theorem t_nee : ∀ b, b < 256 → fX1_needsFlags (nI (kC b)) = if neeB b then 1 else 0 := all256 (by decide +kernel)
set_option maxRecDepth 100000 in
theorem t_cmp : ∀ b, b < 256 → fX1_onlyCompares (nI (kC b)) = if cmpB b then 1 else 0 := all256 (by decide +kernel)
set_option maxRecDepth 100000 in
theorem t_swf : ∀ b, b < 256 → fX1_sizeWithoutFlags (nI (kC b)) = nI (swfB b) ∧ swfB b ≤ 4 := all256 (by decide +kernel)
set_option maxRecDepth 100000 in
theorem t_kinds : ∀ b, b < 256 → kM b = (if kC b ≤ 23 then kC b else kC b - 1) ∧ (kC b = 0 ↔ kM b = 0) ∧ (kC b = 23 → b % 16 = 0) ∧ (kC b = 24 → 1 ≤ b % 16 ∧ b % 16 ≤ 6) := all256 (by decide +kernel)
set_option maxRecDepth 100000 in
theorem t_mMak : ∀ b, b < 256 → fX5_makes (nI (kM b)) = if makB b then 1 else 0 := all256 (by decide +kernel)
set_option maxRecDepth 100000 in
theorem t_mEnd : ∀ b, b < 256 → fX5_ends (nI (kM b)) = if endB b then 1 else 0 := all256 (by decide +kernel)
set_option maxRecDepth 100000 in
theorem t_mByt : ∀ b, b < 256 → (((17 ≤ kM b ∧ kM b ≤ 23) ∨ kM b = 24 ∨ kM b = 28) ↔ bytB b = 2) := all256 (by decide +kernel)
set_option maxRecDepth 100000 in
theorem t_facts : ∀ b, b < 256 → (makB b = true → endB b = false) ∧ (cmpB b = true → makB b = true) ∧ (leaB b = true → endB b = true) ∧ (endB b = true → leaB b = false → kC b = 4) ∧ (makB b = true → ¬ kC b = 0) := all256 (by decide +kernel)
theorem look_e {v : TM} {a b : Nat} (ha : a < 256) (hb : b < 256) (e : gM_memory v a = nI b) : fX5_look v (nI a) = some (sM_bytes (sM_kind v (nI (kM b))) (nI (bytB b))) := by
  have hk := kM_eq b hb
  have hy := t_mByt b hb
  have hz := (t_byt b hb).2
  rw [fX5_look, pIn_n ha (by omega), cl_n (by omega), e]
  simp only [pLet_e]
  rw [hk.1]
  have e0 : gM_kind (sM_kind v (nI (kM b))) = nI (kM b) := rfl
  have two : fX5_look_b57 (sM_kind v (nI (kM b))) 2 = some (sM_bytes (sM_kind v (nI (kM b))) (nI 2)) := by rw [fX5_look_b57, pLet_e]; rfl
  have one : fX5_look_b57 (sM_kind v (nI (kM b))) 1 = some (sM_bytes (sM_kind v (nI (kM b))) (nI 1)) := by rw [fX5_look_b57, pLet_e]; rfl
  have l34 : ¬ (17 ≤ kM b ∧ kM b ≤ 23) → fX5_look_b34 (sM_kind v (nI (kM b))) = some (sM_bytes (sM_kind v (nI (kM b))) (nI (bytB b))) := by
    intro hn
    rw [fX5_look_b34, e0]
    by_cases h1 : kM b = 24
    · rw [if_pos (show nI (kM b) = 24 by rw [h1]; rfl), fX5_look_b52, two, hy.mp (Or.inr (Or.inl h1))]
    · rw [if_neg (show ¬ nI (kM b) = 24 from fun z => h1 (nI_inj (by omega) (by omega) (b := 24) z))]
      by_cases h2 : kM b = 28
      · rw [if_pos (show nI (kM b) = 28 by rw [h2]; rfl), fX5_look_b52, two, hy.mp (Or.inr (Or.inr h2))]
      · rw [if_neg (show ¬ nI (kM b) = 28 from fun z => h2 (nI_inj (by omega) (by omega) (b := 28) z)), one]
        have : bytB b = 1 := by
          rcases hz with h | h
          · exact h
          · rcases hy.mpr h with h3 | h3 | h3
            · exact absurd h3 hn
            · exact absurd h3 h1
            · exact absurd h3 h2
        rw [this]
  rw [e0]
  by_cases h1 : kM b < 17
  · rw [if_pos (show nI (kM b) < 17 from nI_lt (b := 17) h1 (by omega))]
    exact l34 (by omega)
  · rw [if_neg (show ¬ nI (kM b) < 17 from nI_nlt (b := 17) (by omega) (by omega))]
    by_cases h2 : kM b ≤ 23
    · rw [if_pos (show nI (kM b) ≤ 23 from nI_le (b := 23) h2 (by omega)), fX5_look_b52, two, hy.mp (Or.inl ⟨by omega, h2⟩)]
    · rw [if_neg (show ¬ nI (kM b) ≤ 23 from nI_ge (a := 23) (by omega) (by omega))]
      exact l34 (by omega)
/-- instructions that lie in memory from a place on -/
def mt (m : Nat → Int32) : Nat → List (Nat × Nat) → Prop
  | _, [] => True
  | a, q :: r => m a = nI q.1 ∧ q.1 < 256 ∧ q.2 < 256 ∧ ¬ kC q.1 = 0 ∧ (bytB q.1 = 2 → m ((a + 1) % 256) = nI q.2) ∧ mt m ((a + bytB q.1) % 256) r
def nby : List (Nat × Nat) → Nat
  | [] => 0
  | q :: r => bytB q.1 + nby r
/-- flags that are made anew before anyone asks for them -/
def man : List (Nat × Nat) → Bool
  | [] => false
  | q :: r => !neeB q.1 && (makB q.1 || man r)
/-- the words of the class's code for them -/
def cwd (code : Nat → Int32) : Nat → List (Nat × Nat) → Prop
  | _, [] => True
  | k, q :: r => code k = nI (wd q.1 q.2 (makB q.1 && man r)) ∧ cwd code (k + 1) r
theorem nby_le : ∀ (l : List (Nat × Nat)), (∀ q ∈ l, q.1 < 256) → l.length ≤ nby l ∧ nby l ≤ 2 * l.length
  | [], _ => by simp [nby]
  | q :: r, h => by
    have h1 := nby_le r (fun z hz => h z (List.mem_cons_of_mem _ hz))
    have h2 := (t_byt q.1 (h q List.mem_cons_self)).2
    simp only [nby, List.length_cons]
    omega
theorem mt_mem : ∀ (l : List (Nat × Nat)) {m : Nat → Int32} {a : Nat}, mt m a l → ∀ q ∈ l, q.1 < 256
  | [], _, _, _, q, hq => absurd hq List.not_mem_nil
  | z :: r, m, a, h, q, hq => by
    rcases List.mem_cons.mp hq with e | e
    · rw [e]; exact h.2.1
    · exact mt_mem r h.2.2.2.2.2 q e
/-- a write elsewhere leaves them -/
theorem mt_upd : ∀ (l : List (Nat × Nat)) {m : Nat → Int32} {a i : Nat} {x : Int32}, a < 256 → mt m a l → (∀ k, k < nby l → (a + k) % 256 ≠ i) → mt (upd m i x) a l
  | [], _, _, _, _, _, _, _ => trivial
  | q :: r, m, a, i, x, ha, h, hi => by
    obtain ⟨h1, h2, h3, h4, h5, h6⟩ := h
    have hy := (t_byt q.1 h2).2
    have hn : nby (q :: r) = bytB q.1 + nby r := rfl
    refine ⟨?_, h2, h3, h4, fun hb => ?_, ?_⟩
    · have := hi 0 (by omega)
      rw [pk_un (by rw [Nat.add_zero, Nat.mod_eq_of_lt ha] at this; exact this)]
      exact h1
    · rw [pk_un (hi 1 (by omega))]
      exact h5 hb
    · refine mt_upd r (Nat.mod_lt _ (by omega)) h6 (fun k hk => ?_)
      have := hi (bytB q.1 + k) (by omega)
      rw [show ((a + bytB q.1) % 256 + k) % 256 = (a + (bytB q.1 + k)) % 256 by omega]
      exact this

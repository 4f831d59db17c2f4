/-- what the class's cache holds of serials behind the removal of a page's blocks -/
def dS (ser beh : Nat → Int32) (g : Nat) : Nat → Int32 := fun p => if p < 256 ∧ (p / 32 = g ∨ ((beh p - 1) &&& 255) / 32 = nI g) then 0 else ser p
theorem dropPage_e {code len beh siz ser exP lnk : Nat → Int32} {limit blocks filled trl fls dead : Int32} {g : Nat} (hg : g < 8) (hb : blocks = cn ser) (hf : filled = fl ser siz) (hw : ∀ p, p < 256 → ¬ ser p = 0 → tch beh g p → ∃ j, j < 47 ∧ p = (32 * g + 241 + j) % 256) :
    fX0_dropPage (code, len, beh, siz, ser, exP, lnk, limit, blocks, filled, trl, fls, dead) (nI g) = some (cn ser - cn (dS ser beh g), (code, len, beh, siz, dS ser beh g, exP, lnk, limit, cn (dS ser beh g), fl (dS ser beh g) siz, trl, fls, dead)) := by
  rw [fX0_dropPage]
  have hfu : 47 < fuelX0_dropPage_16 := by unfold fuelX0_dropPage_16; omega
  generalize fuelX0_dropPage_16 = fu at hfu ⊢
  simp only [pLet_e]
  rw [show nI g * 32 = nI (32 * g) by rw [show (32 : Int32) = nI 32 from rfl, pk_mul, Nat.mul_comm], show (15 : Int32) = nI 15 from rfl, show (0 : Int32) = nI 0 from rfl]
  obtain ⟨ser', blocks', filled', a1, a2, a3, a4, a5⟩ := dp_loop (code := code) (len := len) (beh := beh) (siz := siz) (exP := exP) (lnk := lnk) (limit := limit) (trl := trl) (fls := fls) (dead := dead) (x2 := gC_blocks (code, len, beh, siz, ser, exP, lnk, limit, blocks, filled, trl, fls, dead)) hg fu 0 ser blocks filled (by omega) (by omega)
  have es : ser' = dS ser beh g := by
    funext p
    unfold dS
    by_cases hp : p < 256 ∧ (p / 32 = g ∨ ((beh p - 1) &&& 255) / 32 = nI g)
    · rw [if_pos hp]
      rcases a2 p with h | h
      · by_cases h0 : ser p = 0
        · rw [h]; exact h0
        · obtain ⟨j, hj, he⟩ := hw p hp.1 h0 hp.2
          rw [he]
          exact a3 j (by omega) hj (by rw [← he]; exact hp.2)
      · exact h.1
    · rw [if_neg hp]
      rcases a2 p with h | h
      · exact h
      · exact absurd ⟨h.2.1, h.2.2⟩ hp
  subst es
  have e1 : blocks' = cn (dS ser beh g) := by rw [hb] at a4; grind
  have e2 : filled' = fl (dS ser beh g) siz := by rw [hf] at a5; grind
  subst e1 e2
  rw [a1]
  have e3 : gC_blocks (code, len, beh, siz, ser, exP, lnk, limit, blocks, filled, trl, fls, dead) = cn ser := hb
  rw [e3]
/-! the same in the reference -/
def cnM (S : Nat → Int32) : Int32 := sm (fun p => if S p ≤ 0 then 0 else 1) 256
def flM (S : Nat → Int32) : Int32 := sm (fun p => if S p ≤ 0 then 0 else S p) 256
theorem cnM_upd {S : Nat → Int32} {p : Nat} (hp : p < 256) (h : ¬ S p ≤ 0) : cnM (upd S p 0) = cnM S - 1 := by
  unfold cnM
  rw [sm_one (f := fun p => if S p ≤ 0 then 0 else 1) (p := p) (fun i hi => by rw [pk_un hi]) hp]
  simp only [pk_us, if_neg h, if_pos (show (0 : Int32) ≤ 0 by decide)]
  grind
theorem flM_upd {S : Nat → Int32} {p : Nat} (hp : p < 256) (h : ¬ S p ≤ 0) : flM (upd S p 0) = flM S - S p := by
  unfold flM
  rw [sm_one (f := fun p => if S p ≤ 0 then 0 else S p) (p := p) (fun i hi => by rw [pk_un hi]) hp]
  simp only [pk_us, if_neg h, if_pos (show (0 : Int32) ≤ 0 by decide)]
  grind
def cn12 (C : Nat → Int32) (z : Int32) : Nat → Int32 := upd (upd C 1 (C 1 - 1)) 2 (C 2 - z)
theorem remove_e {v : TM} {S C : Nat → Int32} {p : Nat} (hp : p < 256) : fX5_remove (sM_counts (sM_size v S) C) (nI p) = some (sM_counts (sM_size v (upd S p 0)) (cn12 C (S p))) := by
  rw [fX5_remove]
  rw [p12_1, p12_1]
  dsimp only [pLet]
  rw [p12_2, pIn_n hp (by omega), p12_2, pIn_n hp (by omega), cl_n (by omega), j1, j2]
  rfl
def mtc (pages : Nat → Int32) (g p : Nat) : Prop := ((pages p >>> (nI g &&& 31)) &&& 1) = 1
theorem iv_loop {v : TM} {q : Nat} (hq : q < 256) : ∀ (fu p : Nat) (S C : Nat → Int32) (x2 : Int32), p ≤ 256 → 256 < p + fu →
    ∃ (S' C' : Nat → Int32) (x' : Int32), fX5_invalidate_b4 fu (sM_counts (sM_size v S) C) (nI q) x2 (nI p) = some (x', sM_counts (sM_size v S') C') ∧ (∀ i, S' i = S i ∨ (S' i = 0 ∧ i < 256 ∧ mtc (gM_pages v) (q / 32) i)) ∧ (∀ i, p ≤ i → i < 256 → ¬ S i ≤ 0 → mtc (gM_pages v) (q / 32) i → S' i = 0) ∧
      C' 1 + x' = C 1 + x2 ∧ (∀ i, i ≠ 1 → i ≠ 2 → C' i = C i) ∧ C' 1 - cnM S' = C 1 - cnM S ∧ C' 2 - flM S' = C 2 - flM S := by
  intro fu
  induction fu with
  | zero => intro p S C x2 h1 h2; omega
  | succ fu ih =>
    intro p S C x2 h1 h2
    rw [fX5_invalidate_b4]
    by_cases h256 : p = 256
    · subst h256
      rw [if_pos (show (256 : Int32) ≤ nI 256 from nI_le (a := 256) (Nat.le_refl 256) (by omega))]
      exact ⟨S, C, x2, rfl, fun i => Or.inl rfl, fun i a b => absurd b (by omega), rfl, fun _ _ _ => rfl, rfl, rfl⟩
    · rw [if_neg (show ¬ (256 : Int32) ≤ nI p from nI_ge (b := 256) (show p < 256 by omega) (by omega))]
      have hp : p < 256 := by omega
      rw [pIn_n hp (by omega), pIn_n hp (by omega), cl_n (by omega), div32 (by omega)]
      dsimp only [pLet, fX5_invalidate_b45]
      rw [nI_1]
      by_cases hs : S p ≤ 0
      · rw [if_pos (show gM_size (sM_counts (sM_size v S) C) p ≤ 0 from hs)]
        obtain ⟨S', C', x', a1, a2, a3, a4, a5, a6, a7⟩ := ih (p + 1) S C x2 (by omega) (by omega)
        refine ⟨S', C', x', a1, a2, fun i b1 b2 b3 b4 => ?_, a4, a5, a6, a7⟩
        by_cases hi : i = p
        · subst hi; exact absurd hs b3
        · exact a3 i (by omega) b2 b3 b4
      · rw [if_neg (show ¬ gM_size (sM_counts (sM_size v S) C) p ≤ 0 from hs)]
        by_cases ht : mtc (gM_pages v) (q / 32) p
        · rw [if_pos (show ((gM_pages (sM_counts (sM_size v S) C) p >>> (nI (q / 32) &&& 31)) &&& 1) = 1 from ht), remove_e hp, pB_s]
          obtain ⟨S', C', x', a1, a2, a3, a4, a5, a6, a7⟩ := ih (p + 1) (upd S p 0) (cn12 C (S p)) (x2 + 1) (by omega) (by omega)
          have k1 : cn12 C (S p) 1 = C 1 - 1 := rfl
          have k2 : cn12 C (S p) 2 = C 2 - S p := rfl
          refine ⟨S', C', x', a1, fun i => ?_, fun i b1 b2 b3 b4 => ?_, ?_, fun i b1 b2 => ?_, ?_, ?_⟩
          · rcases a2 i with h | h
            · by_cases hi : i = p
              · subst hi
                rw [pk_us] at h
                exact Or.inr ⟨h, hp, ht⟩
              · rw [pk_un hi] at h
                exact Or.inl h
            · exact Or.inr h
          · by_cases hi : i = p
            · subst hi
              rcases a2 i with h | h
              · rw [h, pk_us]
              · exact h.1
            · exact a3 i (by omega) b2 (by rw [pk_un hi]; exact b3) b4
          · rw [a4, k1]; grind
          · rw [a5 i b1 b2]
            show upd (upd C 1 _) 2 _ i = C i
            rw [pk_un b2, pk_un b1]
          · rw [a6, k1, cnM_upd hp hs]; grind
          · rw [a7, k2, flM_upd hp hs]; grind
        · rw [if_neg (show ¬ ((gM_pages (sM_counts (sM_size v S) C) p >>> (nI (q / 32) &&& 31)) &&& 1) = 1 from ht)]
          obtain ⟨S', C', x', a1, a2, a3, a4, a5, a6, a7⟩ := ih (p + 1) S C x2 (by omega) (by omega)
          refine ⟨S', C', x', a1, a2, fun i b1 b2 b3 b4 => ?_, a4, a5, a6, a7⟩
          by_cases hi : i = p
          · subst hi; exact absurd b4 ht
          · exact a3 i (by omega) b2 b3 b4
/-- what the reference's cache holds of sizes behind the removal -/
def mS (S pages : Nat → Int32) (g : Nat) : Nat → Int32 := fun p => if p < 256 ∧ ((pages p >>> (nI g &&& 31)) &&& 1) = 1 then 0 else S p
theorem invalidate_e {v : TM} {q : Nat} (hq : q < 256) (h0 : ∀ p, p < 256 → gM_size v p ≤ 0 → gM_size v p = 0) (h1 : gM_counts v 1 = cnM (gM_size v)) (h2 : gM_counts v 2 = flM (gM_size v)) :
    fX5_invalidate v (nI q) = some (cnM (gM_size v) - cnM (mS (gM_size v) (gM_pages v) (q / 32)), sM_counts (sM_size v (mS (gM_size v) (gM_pages v) (q / 32))) (upd (upd (gM_counts v) 1 (cnM (mS (gM_size v) (gM_pages v) (q / 32)))) 2 (flM (mS (gM_size v) (gM_pages v) (q / 32))))) := by
  rw [fX5_invalidate]
  have hfu : 256 < fuelX5_invalidate_4 := by unfold fuelX5_invalidate_4; omega
  generalize fuelX5_invalidate_4 = fu at hfu ⊢
  obtain ⟨S', C', x', a1, a2, a3, a4, a5, a6, a7⟩ := iv_loop (v := v) hq fu 0 (gM_size v) (gM_counts v) 0 (by omega) (by omega)
  have es : S' = mS (gM_size v) (gM_pages v) (q / 32) := by
    funext p
    unfold mS
    by_cases hp : p < 256 ∧ ((gM_pages v p >>> (nI (q / 32) &&& 31)) &&& 1) = 1
    · rw [if_pos hp]
      rcases a2 p with h | h
      · by_cases hz : gM_size v p ≤ 0
        · rw [h]; exact h0 p hp.1 hz
        · exact a3 p (by omega) hp.1 hz hp.2
      · exact h.1
    · rw [if_neg hp]
      rcases a2 p with h | h
      · exact h
      · exact absurd ⟨h.2.1, h.2.2⟩ hp
  subst es
  generalize hS : mS (gM_size v) (gM_pages v) (q / 32) = S' at a1 a6 a7 ⊢
  have e1 : C' 1 = cnM S' := by rw [h1] at a6; grind
  have e2 : C' 2 = flM S' := by rw [h2] at a7; grind
  have e3 : x' = cnM (gM_size v) - cnM S' := by rw [e1, h1] at a4; grind
  have e4 : C' = upd (upd (gM_counts v) 1 (cnM S')) 2 (flM S') := by
    funext i
    by_cases i2 : i = 2
    · subst i2; rw [pk_us]; exact e2
    · rw [pk_un i2]
      by_cases i1 : i = 1
      · subst i1; rw [pk_us]; exact e1
      · rw [pk_un i1]; exact a5 i i1 i2
  rw [e3, e4] at a1
  exact a1

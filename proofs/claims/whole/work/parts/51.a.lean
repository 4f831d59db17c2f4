/-! sums over the places, and the removal of blocks -/
def sm (f : Nat → Int32) : Nat → Int32
  | 0 => 0
  | n + 1 => sm f n + f n
theorem sm_congr {f g : Nat → Int32} : ∀ {n : Nat}, (∀ i, i < n → f i = g i) → sm f n = sm g n
  | 0, _ => rfl
  | n + 1, h => by
    show sm f n + f n = sm g n + g n
    rw [sm_congr (fun i hi => h i (by omega)), h n (by omega)]
theorem sm_one {f g : Nat → Int32} {p : Nat} (h : ∀ i, i ≠ p → g i = f i) : ∀ {n : Nat}, p < n → sm g n = sm f n - f p + g p
  | 0, hp => absurd hp (by omega)
  | n + 1, hp => by
    show sm g n + g n = sm f n + f n - f p + g p
    by_cases e : p = n
    · subst e
      rw [sm_congr (f := g) (g := f) (fun i hi => h i (by omega))]
      grind
    · rw [sm_one h (show p < n by omega), h n (fun q => e q.symm)]
      grind
/-- how many blocks there are, and their sizes together -/
def cn (ser : Nat → Int32) : Int32 := sm (fun p => if ser p = 0 then 0 else 1) 256
def fl (ser siz : Nat → Int32) : Int32 := sm (fun p => if ser p = 0 then 0 else siz p) 256
theorem cn_upd {ser : Nat → Int32} {p : Nat} (hp : p < 256) (h : ¬ ser p = 0) : cn (upd ser p 0) = cn ser - 1 := by
  unfold cn
  rw [sm_one (f := fun p => if ser p = 0 then 0 else 1) (p := p) (fun i hi => by rw [pk_un hi]) hp]
  simp only [pk_us, if_true, if_neg h]
  grind
theorem fl_upd {ser siz : Nat → Int32} {p : Nat} (hp : p < 256) (h : ¬ ser p = 0) : fl (upd ser p 0) siz = fl ser siz - siz p := by
  unfold fl
  rw [sm_one (f := fun p => if ser p = 0 then 0 else siz p) (p := p) (fun i hi => by rw [pk_un hi]) hp]
  simp only [pk_us, if_true, if_neg h]
  grind
theorem has_e {u : TC} {p : Nat} (hp : p < 256) : fX0_has u (nI p) = some (if gC_serial u p = 0 then 0 else 1) := by
  rw [fX0_has, pIn_n hp (by omega), cl_n (by omega)]
  by_cases h : gC_serial u p = 0
  · rw [if_pos h, if_pos h]
  · rw [if_neg h, if_neg h]
/-- a block at p has a byte in the page g (its end as the class holds it) -/
def tch (beh : Nat → Int32) (g p : Nat) : Prop := p / 32 = g ∨ ((beh p - 1) &&& 255) / 32 = nI g
theorem tch_dec (beh : Nat → Int32) (g p : Nat) : tch beh g p ∨ ¬ tch beh g p := Classical.em _
theorem reach_e {u : TC} {p g : Nat} (hp : p < 256) (hg : g < 8) : (tch (gC_behind u) g p → fX0_reaches u (nI p) (nI g) = some 1) ∧ (¬ tch (gC_behind u) g p → fX0_reaches u (nI p) (nI g) = some 0) := by
  have e : fX0_reaches u (nI p) (nI g) = if nI (p / 32) = nI g then some 1 else if ((gC_behind u p - 1) &&& 255) / 32 = nI g then some 1 else some 0 := by
    rw [fX0_reaches, pIn_n hp (by omega)]
    dsimp only [pLet]
    rw [cl_n (by omega), div32 (by omega)]
  rw [e]
  have q : nI (p / 32) = nI g ↔ p / 32 = g := nI_eq (by omega) (by omega)
  unfold tch
  constructor
  · intro h
    by_cases h1 : p / 32 = g
    · rw [if_pos (q.mpr h1)]
    · rw [if_neg (fun z => h1 (q.mp z)), if_pos (h.resolve_left h1)]
  · intro h
    rw [if_neg (fun z => h (Or.inl (q.mp z))), if_neg (fun z => h (Or.inr z))]
/-- the class's loop over the places that may have a byte in the page -/
theorem dp_loop {code len beh siz exP lnk : Nat → Int32} {limit trl fls dead x2 : Int32} {g : Nat} (hg : g < 8) : ∀ (fu i : Nat) (ser : Nat → Int32) (blocks filled : Int32), i ≤ 47 → 47 < i + fu →
    ∃ (ser' : Nat → Int32) (blocks' filled' : Int32), fX0_dropPage_b16 fu (code, len, beh, siz, ser, exP, lnk, limit, blocks, filled, trl, fls, dead) (nI g) x2 (nI (32 * g) - nI 15) (nI i) = some (x2 - blocks', (code, len, beh, siz, ser', exP, lnk, limit, blocks', filled', trl, fls, dead)) ∧
      (∀ p, ser' p = ser p ∨ (ser' p = 0 ∧ p < 256 ∧ tch beh g p)) ∧ (∀ j, i ≤ j → j < 47 → tch beh g ((32 * g + 241 + j) % 256) → ser' ((32 * g + 241 + j) % 256) = 0) ∧ blocks' - cn ser' = blocks - cn ser ∧ filled' - fl ser' siz = filled - fl ser siz := by
  intro fu
  induction fu with
  | zero => intro i ser blocks filled h1 h2; omega
  | succ fu ih =>
    intro i ser blocks filled h1 h2
    rw [fX0_dropPage_b16]
    by_cases h47 : i = 47
    · subst h47
      rw [if_pos (show (47 : Int32) ≤ nI 47 from nI_le (a := 47) (Nat.le_refl 47) (by omega))]
      exact ⟨ser, blocks, filled, rfl, fun p => Or.inl rfl, fun j a b => absurd b (by omega), rfl, rfl⟩
    · rw [if_neg (show ¬ (47 : Int32) ≤ nI i from nI_ge (b := 47) (show i < 47 by omega) (by omega))]
      dsimp only [pLet, fX0_dropPage_b86]
      have eP : ((nI (32 * g) - nI 15) + nI i) &&& 255 = nI ((32 * g + 241 + i) % 256) := by
        rw [addsub255 (by omega) (by omega) (by omega)]
        congr 1
        omega
      rw [eP]
      have hP : (32 * g + 241 + i) % 256 < 256 := Nat.mod_lt _ (by omega)
      generalize hPe : (32 * g + 241 + i) % 256 = P at hP
      rw [has_e hP, pB_s, nI_1]
      by_cases hs : ser P = 0
      · rw [if_pos (show gC_serial (code, len, beh, siz, ser, exP, lnk, limit, blocks, filled, trl, fls, dead) P = 0 from hs), if_pos rfl]
        obtain ⟨ser', blocks', filled', a1, a2, a3, a4, a5⟩ := ih (i + 1) ser blocks filled (by omega) (by omega)
        refine ⟨ser', blocks', filled', a1, a2, fun j b1 b2 b3 => ?_, a4, a5⟩
        by_cases hj : j = i
        · subst hj
          rw [hPe]
          rcases a2 P with h | h
          · rw [h]; exact hs
          · exact h.1
        · exact a3 j (by omega) b2 b3
      · rw [if_neg (show ¬ gC_serial (code, len, beh, siz, ser, exP, lnk, limit, blocks, filled, trl, fls, dead) P = 0 from hs), if_neg (show ¬ (1 : Int32) = 0 by decide)]
        have hre := reach_e (u := (code, len, beh, siz, ser, exP, lnk, limit, blocks, filled, trl, fls, dead)) hP hg
        by_cases ht : tch beh g P
        · rw [hre.1 ht, pB_s, if_neg (show ¬ (1 : Int32) = 0 by decide), pIn_n hP (by omega), pIn_n hP (by omega), cl_n (by omega)]
          obtain ⟨ser', blocks', filled', a1, a2, a3, a4, a5⟩ := ih (i + 1) (upd ser P 0) (blocks - 1) (filled - siz P) (by omega) (by omega)
          refine ⟨ser', blocks', filled', a1, fun p => ?_, fun j b1 b2 b3 => ?_, ?_, ?_⟩
          · rcases a2 p with h | h
            · by_cases hp : p = P
              · subst hp
                rw [pk_us] at h
                exact Or.inr ⟨h, hP, ht⟩
              · rw [pk_un hp] at h
                exact Or.inl h
            · exact Or.inr h
          · by_cases hj : j = i
            · subst hj
              rw [hPe]
              rcases a2 P with h | h
              · rw [h, pk_us]
              · exact h.1
            · exact a3 j (by omega) b2 b3
          · rw [a4, cn_upd hP hs]; grind
          · rw [a5, fl_upd hP hs]; grind
        · rw [hre.2 ht, pB_s, if_pos rfl]
          obtain ⟨ser', blocks', filled', a1, a2, a3, a4, a5⟩ := ih (i + 1) ser blocks filled (by omega) (by omega)
          refine ⟨ser', blocks', filled', a1, a2, fun j b1 b2 b3 => ?_, a4, a5⟩
          by_cases hj : j = i
          · subst hj
            rw [hPe] at b3
            exact absurd b3 ht
          · exact a3 j (by omega) b2 b3

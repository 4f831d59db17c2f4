/-! translating: the reference -/
theorem or256 {x y : Nat} (hx : x < 256) (hy : y < 256) : x ||| y < 256 := Nat.or_lt_two_pow (n := 8) hx hy
set_option maxRecDepth 100000 in
theorem pg_bit : ∀ P, P < 256 → ∀ g : Fin 8, (((nI P >>> (nI g.val &&& 31)) &&& 1) = 1 ↔ P.testBit g.val = true) := all256 (by decide +kernel)
theorem pg_one : ∀ g : Fin 8, (1 : Int32) <<< (nI g.val &&& 31) = nI (2 ^ g.val) := by decide +kernel
theorem pg_lt : ∀ g : Fin 8, 2 ^ g.val < 256 := by decide +kernel
theorem pg_or {P h g : Nat} : (P ||| 2 ^ h).testBit g = true ↔ P.testBit g = true ∨ g = h := by
  rw [Nat.testBit_or, Nat.testBit_two_pow]
  by_cases e : h = g
  · subst e; simp
  · simp only [e, decide_false, Bool.or_false]
    exact ⟨Or.inl, fun z => z.resolve_right (fun y => e y.symm)⟩
def sav (b : Nat) : Nat := (if kC b = 16 then 4 else 3) + (if cmpB b = true then swfB b else 0)
def sv : Option Nat → Bool → Nat
  | none, _ => 0
  | some b, m => if m = true then sav b else 0
def dv : Option Nat → Bool → Nat
  | none, _ => 0
  | some _, m => if m = true then 1 else 0
/-- an instruction whose flags nobody has asked for yet -/
def wts (ks : Nat → Int32) (j : Nat) (x4 : Int32) : Option Nat → Prop
  | none => x4 = -1
  | some b => b < 256 ∧ makB b = true ∧ ∃ w, w < j ∧ x4 = nI w ∧ ks w = nI (kM b)
def rdv (x1 x2 : Int32) : Int32 := if x1 = 8 then 1 else if x1 = 15 then 1 else if x1 = 16 then 1 else if x1 = 23 then (if fX5_isAlways x2 = 0 then 1 else 0) else 0
theorem rd_e {u : TM} {x1 x2 : Int32} : fX5_reads u x1 x2 = rdv x1 x2 := by
  unfold fX5_reads rdv
  simp only [pLet_e]
set_option maxRecDepth 100000 in
theorem tb_rd : ∀ b, b < 256 → ((¬ rdv (nI (kM b)) (nI b) = 0 ∨ nI (kM b) = 22 ∨ nI (kM b) = 26 ∨ nI (kM b) = 24) ↔ neeB b = true) := all256 (by decide +kernel)
set_option maxRecDepth 100000 in
theorem t_sz : ∀ b, b < 256 → (if nI (kM b) = 23 then (if fX5_isAlways (nI b) = 0 then 3 else fX5_sizeOf (nI (kM b))) else fX5_sizeOf (nI (kM b))) = nI (swfB b) := all256 (by decide +kernel)
set_option maxRecDepth 100000 in
theorem t_16 : ∀ b, b < 256 → (nI (kM b) = 16 ↔ kC b = 16) ∧ (makB b = true → fX5_sizeOf (nI (kM b)) = nI (swfB b) ∧ ((nI (kM b) = 10 ∨ nI (kM b) = 19) ↔ cmpB b = true)) ∧ (nI (kM b) = 0 ↔ kC b = 0) := all256 (by decide +kernel)
set_option maxRecDepth 100000 in
theorem t_la : ∀ b, b < 256 → ((nI (kM b) = 4 ∨ fX5_ends (nI (kM b)) = 0) ↔ leaB b = false) := all256 (by decide +kernel)
theorem sz_dead {b : Nat} (h : makB b = true) : nI (szw b true) + nI (sav b) = nI (swfB b) + nI (if kC b = 16 then 4 else 3) := by
  unfold szw sav
  rw [if_pos h, if_pos rfl, nI_add, nI_add]
  congr 1
  cases cmpB b
  · simp <;> omega
  · simp <;> omega
theorem sz_live {b : Nat} (h : makB b = true) : nI (szw b false) = nI (swfB b) + nI (if kC b = 16 then 4 else 3) := by
  unfold szw
  rw [if_pos h, if_neg (by decide), nI_add]
theorem sz_no {b : Nat} {d : Bool} (h : makB b = false) : szw b d = swfB b := by
  unfold szw
  rw [if_neg (by rw [h]; decide)]
theorem fd_sums (fs fd : Int32) (W : Option Nat) (b n2 : Nat) (r : List (Nat × Nat)) :
    fs + nI (swfB b) - nI (sv (if neeB b = true then none else W) (makB b)) + (if makB b = true then nI (if kC b = 16 then 4 else 3) else 0) + nI (szC r) - nI (sv (if makB b = true then some b else (if neeB b = true then none else W)) (man r)) = fs + nI (szC ((b, n2) :: r)) - nI (sv W (man ((b, n2) :: r))) ∧
      fd + nI (dv (if neeB b = true then none else W) (makB b)) + nI (ndd r) + nI (dv (if makB b = true then some b else (if neeB b = true then none else W)) (man r)) = fd + nI (ndd ((b, n2) :: r)) + nI (dv W (man ((b, n2) :: r))) := by
  have em : man ((b, n2) :: r) = (!neeB b && (makB b || man r)) := rfl
  have es : szC ((b, n2) :: r) = szw b (makB b && man r) + szC r := rfl
  have ed : ndd ((b, n2) :: r) = (if (makB b && man r) = true then 1 else 0) + ndd r := rfl
  rw [em, es, ed, ← nI_add, ← nI_add]
  have n0 : nI 0 = 0 := rfl
  have n1 : nI 1 = 1 := rfl
  generalize nI (szC r) = X
  generalize nI (ndd r) = Y
  cases hmk : makB b
  · rw [sz_no hmk]
    generalize nI (swfB b) = A
    cases neeB b <;> cases man r <;> cases W <;> simp only [sv, dv, Bool.false_eq_true, if_false, if_true, Bool.not_true, Bool.not_false, Bool.true_and, Bool.and_true, Bool.false_and, Bool.and_false, Bool.or_false, Bool.or_true, Bool.false_or, Bool.true_or, n0, n1] <;> (try generalize nI (sav _) = C) <;> exact ⟨by grind, by grind⟩
  · have h1 := sz_dead hmk
    have h2 := sz_live hmk
    generalize nI (if kC b = 16 then 4 else 3) = B at h1 h2 ⊢
    generalize nI (swfB b) = A at h1 h2 ⊢
    cases man r
    · simp only [Bool.true_and]
      rw [h2]
      cases neeB b <;> cases W <;> simp only [sv, dv, Bool.false_eq_true, if_false, if_true, Bool.not_true, Bool.not_false, Bool.true_and, Bool.and_true, Bool.false_and, Bool.and_false, Bool.or_false, Bool.or_true, Bool.false_or, Bool.true_or, n0, n1] <;> (try generalize nI (sav _) = C) <;> exact ⟨by grind, by grind⟩
    · simp only [Bool.true_and]
      generalize nI (szw b true) = D at h1 ⊢
      cases neeB b <;> cases W <;> simp only [sv, dv, Bool.false_eq_true, if_false, if_true, Bool.not_true, Bool.not_false, Bool.true_and, Bool.and_true, Bool.false_and, Bool.and_false, Bool.or_false, Bool.or_true, Bool.false_or, Bool.true_or, n0, n1] <;> generalize nI (sav b) = C at h1 ⊢ <;> (try generalize nI (sav _) = E) <;> exact ⟨by grind, by grind⟩
set_option maxRecDepth 20000 in
theorem f255 {mem reg inp rq gvn size len pages which exA exT cnt ks : Nat → Int32} {rf im rm lr room trn lb ov fs fd : Int32} {a b j P : Nat} {x4 : Int32} (K : TM → Int32 → Int32 → Int32 → Option TM) (ha : a < 256) (hb : b < 256) (hj : j < 8) (hP : P < 256) : ∃ P', P' < 256 ∧ (∀ g, g < 8 → (P'.testBit g = true ↔ P.testBit g = true ∨ ∃ k, k < bytB b ∧ (a + k) % 256 / 32 = g)) ∧
    fX5_find_b255 K (rf, mem, reg, inp, im, rq, rm, lr, gvn, size, len, pages, which, exA, exT, room, trn, cnt, (nI (kM b)), (nI (bytB b)), (nI j), fs, (nI P), fd, ks, lb, ov) (nI a) x4 = K (rf, mem, reg, inp, im, rq, rm, lr, gvn, size, len, pages, which, exA, exT, room, trn, cnt, (nI (kM b)), (nI (bytB b)), (nI (j + 1)), fs, (nI P'), fd, ks, lb, ov) (nI ((a + bytB b) % 256)) (if endB b = true ∨ 8 ≤ j + 1 then 0 else 1) x4 := by
  have hy := (t_byt b hb).2
  have fin : ∀ (n : Nat) (Q : Nat), fX5_find_b268 K (n + 1) (rf, mem, reg, inp, im, rq, rm, lr, gvn, size, len, pages, which, exA, exT, room, trn, cnt, (nI (kM b)), (nI (bytB b)), (nI (j + 1)), fs, (nI Q), fd, ks, lb, ov) (nI a) x4 (nI (bytB b)) = K (rf, mem, reg, inp, im, rq, rm, lr, gvn, size, len, pages, which, exA, exT, room, trn, cnt, (nI (kM b)), (nI (bytB b)), (nI (j + 1)), fs, (nI Q), fd, ks, lb, ov) (nI ((a + bytB b) % 256)) (if endB b = true ∨ 8 ≤ j + 1 then 0 else 1) x4 := by
    intro n Q
    rw [fX5_find_b268, if_pos (show gM_bytes (rf, mem, reg, inp, im, rq, rm, lr, gvn, size, len, pages, which, exA, exT, room, trn, cnt, (nI (kM b)), (nI (bytB b)), (nI (j + 1)), fs, (nI Q), fd, ks, lb, ov) ≤ nI (bytB b) from nI_le (Nat.le_refl (bytB b)) (by omega)), pLet_e, pLet_e]
    rw [show gM_bytes (rf, mem, reg, inp, im, rq, rm, lr, gvn, size, len, pages, which, exA, exT, room, trn, cnt, (nI (kM b)), (nI (bytB b)), (nI (j + 1)), fs, (nI Q), fd, ks, lb, ov) = nI (bytB b) from rfl, show gM_kind (rf, mem, reg, inp, im, rq, rm, lr, gvn, size, len, pages, which, exA, exT, room, trn, cnt, (nI (kM b)), (nI (bytB b)), (nI (j + 1)), fs, (nI Q), fd, ks, lb, ov) = nI (kM b) from rfl, show gM_foundMany (rf, mem, reg, inp, im, rq, rm, lr, gvn, size, len, pages, which, exA, exT, room, trn, cnt, (nI (kM b)), (nI (bytB b)), (nI (j + 1)), fs, (nI Q), fd, ks, lb, ov) = nI (j + 1) from rfl, add255 (by omega) (by omega), t_mEnd b hb]
    by_cases he : endB b = true
    · rw [if_pos he, if_neg (show ¬ (1 : Int32) = 0 by decide), if_pos (Or.inl he), fX5_find_b339, fX5_find_b340]
    · rw [if_neg he, if_pos rfl]
      by_cases h8 : 8 ≤ j + 1
      · rw [if_pos (show (8 : Int32) ≤ nI (j + 1) from nI_le (a := 8) h8 (by omega)), if_pos (Or.inr h8), fX5_find_b339, fX5_find_b340]
      · rw [if_neg (show ¬ (8 : Int32) ≤ nI (j + 1) from nI_ge (b := 8) (by omega) (by omega)), if_neg (by intro z; rcases z with z | z; exact he z; exact h8 z), fX5_find_b340]
  have stp : ∀ (n k Q : Nat), k < bytB b → fX5_find_b268 K (n + 1) (rf, mem, reg, inp, im, rq, rm, lr, gvn, size, len, pages, which, exA, exT, room, trn, cnt, (nI (kM b)), (nI (bytB b)), (nI (j + 1)), fs, (nI Q), fd, ks, lb, ov) (nI a) x4 (nI k) = fX5_find_b268 K n (rf, mem, reg, inp, im, rq, rm, lr, gvn, size, len, pages, which, exA, exT, room, trn, cnt, (nI (kM b)), (nI (bytB b)), (nI (j + 1)), fs, (nI (Q ||| 2 ^ ((a + k) % 256 / 32))), fd, ks, lb, ov) (nI a) x4 (nI (k + 1)) := by
    intro n k Q hk
    rw [fX5_find_b268, if_neg (show ¬ gM_bytes (rf, mem, reg, inp, im, rq, rm, lr, gvn, size, len, pages, which, exA, exT, room, trn, cnt, (nI (kM b)), (nI (bytB b)), (nI (j + 1)), fs, (nI Q), fd, ks, lb, ov) ≤ nI k from nI_ge hk (by omega)), pLet_e, pLet_e, nI_1, add255 (by omega) (by omega), div32 (by omega)]
    have e := pg_one ⟨(a + k) % 256 / 32, by omega⟩
    rw [e, show gM_foundPages (rf, mem, reg, inp, im, rq, rm, lr, gvn, size, len, pages, which, exA, exT, room, trn, cnt, (nI (kM b)), (nI (bytB b)), (nI (j + 1)), fs, (nI Q), fd, ks, lb, ov) = nI Q from rfl, nI_or]
    rfl
  obtain ⟨n, hn⟩ : ∃ n, fuelX5_find_268 = n + 3 := ⟨5997, rfl⟩
  rw [fX5_find_b255, pLet_e, hn]
  have e0 : sM_foundMany (rf, mem, reg, inp, im, rq, rm, lr, gvn, size, len, pages, which, exA, exT, room, trn, cnt, (nI (kM b)), (nI (bytB b)), (nI j), fs, (nI P), fd, ks, lb, ov) (gM_foundMany (rf, mem, reg, inp, im, rq, rm, lr, gvn, size, len, pages, which, exA, exT, room, trn, cnt, (nI (kM b)), (nI (bytB b)), (nI j), fs, (nI P), fd, ks, lb, ov) + 1) = (rf, mem, reg, inp, im, rq, rm, lr, gvn, size, len, pages, which, exA, exT, room, trn, cnt, (nI (kM b)), (nI (bytB b)), (nI (j + 1)), fs, (nI P), fd, ks, lb, ov) := by
    show (rf, mem, reg, inp, im, rq, rm, lr, gvn, size, len, pages, which, exA, exT, room, trn, cnt, (nI (kM b)), (nI (bytB b)), (nI j + 1), fs, (nI P), fd, ks, lb, ov) = _
    rw [nI_1]
  rw [e0, show (0 : Int32) = nI 0 from rfl, stp (n + 2) 0 P (by omega)]
  have l1 := pg_lt ⟨(a + 0) % 256 / 32, by omega⟩
  have l2 := pg_lt ⟨(a + 1) % 256 / 32, by omega⟩
  rcases hy with h | h
  · refine ⟨P ||| 2 ^ ((a + 0) % 256 / 32), or256 hP l1, fun g hg => ?_, ?_⟩
    · rw [pg_or]
      refine ⟨fun z => z.imp id (fun z => ⟨0, by omega, z.symm⟩), fun z => z.imp id (fun z => ?_)⟩
      obtain ⟨k, hk, e⟩ := z
      rw [← e, show k = 0 by omega]
    · have := fin (n + 1) (P ||| 2 ^ ((a + 0) % 256 / 32))
      rw [h] at this ⊢
      exact this
  · rw [stp (n + 1) 1 _ (by omega)]
    refine ⟨P ||| 2 ^ ((a + 0) % 256 / 32) ||| 2 ^ ((a + 1) % 256 / 32), or256 (or256 hP l1) l2, fun g hg => ?_, ?_⟩
    · rw [pg_or, pg_or]
      constructor
      · intro z
        rcases z with (z | z) | z
        · exact Or.inl z
        · exact Or.inr ⟨0, by omega, z.symm⟩
        · exact Or.inr ⟨1, by omega, z.symm⟩
      · intro z
        rcases z with z | ⟨k, hk, e⟩
        · exact Or.inl (Or.inl z)
        · rcases (show k = 0 ∨ k = 1 by omega) with q | q
          · subst q; exact Or.inl (Or.inr e.symm)
          · subst q; exact Or.inr e.symm
    · have := fin n (P ||| 2 ^ ((a + 0) % 256 / 32) ||| 2 ^ ((a + 1) % 256 / 32))
      rw [h] at this ⊢
      exact this
set_option maxRecDepth 20000 in
theorem f110 {mem reg inp rq gvn size len pages which exA exT cnt : Nat → Int32} {rf im rm lr room trn lb ov fs fp fd : Int32} {b j : Nat} {x2 x4 : Int32} {KS : Nat → Int32} {W : Option Nat} (K : TM → Int32 → Int32 → Int32 → Option TM) (hb : b < 256) (hj : j < 8) (hw : wts KS j x4 W) : 
    fX5_find_b110 K (rf, mem, reg, inp, im, rq, rm, lr, gvn, size, len, pages, which, exA, exT, room, trn, cnt, (nI (kM b)), (nI (bytB b)), (nI j), fs, fp, fd, KS, lb, ov) x2 x4 (nI b) = fX5_find_b255 K (rf, mem, reg, inp, im, rq, rm, lr, gvn, size, len, pages, which, exA, exT, room, trn, cnt, (nI (kM b)), (nI (bytB b)), (nI j), (fs + nI (swfB b) - nI (sv W (makB b)) + (if makB b = true then nI (if kC b = 16 then 4 else 3) else 0)), fp, (fd + nI (dv W (makB b))), KS, lb, ov) x2 (if makB b = true then nI j else x4) := by
  have h143 : fX5_find_b110 K (rf, mem, reg, inp, im, rq, rm, lr, gvn, size, len, pages, which, exA, exT, room, trn, cnt, (nI (kM b)), (nI (bytB b)), (nI j), fs, fp, fd, KS, lb, ov) x2 x4 (nI b) = fX5_find_b143 K (rf, mem, reg, inp, im, rq, rm, lr, gvn, size, len, pages, which, exA, exT, room, trn, cnt, (nI (kM b)), (nI (bytB b)), (nI j), fs, fp, fd, KS, lb, ov) x2 x4 (nI (swfB b)) fs := by
    have hs := t_sz b hb
    rw [fX5_find_b110, show gM_kind (rf, mem, reg, inp, im, rq, rm, lr, gvn, size, len, pages, which, exA, exT, room, trn, cnt, (nI (kM b)), (nI (bytB b)), (nI j), fs, fp, fd, KS, lb, ov) = nI (kM b) from rfl, show gM_foundSize (rf, mem, reg, inp, im, rq, rm, lr, gvn, size, len, pages, which, exA, exT, room, trn, cnt, (nI (kM b)), (nI (bytB b)), (nI j), fs, fp, fd, KS, lb, ov) = fs from rfl]
    by_cases h1 : nI (kM b) = 23
    · rw [if_pos h1] at hs ⊢
      rw [pLet_e]
      by_cases h2 : fX5_isAlways (nI b) = 0
      · rw [if_pos h2] at hs ⊢
        rw [← hs]
      · rw [if_neg h2] at hs ⊢
        rw [fX5_find_b136, pLet_e, show gM_kind (rf, mem, reg, inp, im, rq, rm, lr, gvn, size, len, pages, which, exA, exT, room, trn, cnt, (nI (kM b)), (nI (bytB b)), (nI j), fs, fp, fd, KS, lb, ov) = nI (kM b) from rfl, hs]
    · rw [if_neg h1] at hs ⊢
      rw [fX5_find_b136, pLet_e, show gM_kind (rf, mem, reg, inp, im, rq, rm, lr, gvn, size, len, pages, which, exA, exT, room, trn, cnt, (nI (kM b)), (nI (bytB b)), (nI j), fs, fp, fd, KS, lb, ov) = nI (kM b) from rfl, hs]
  rw [h143, fX5_find_b143, pLet_e, pLet_e]
  have e1 : sM_foundSize (rf, mem, reg, inp, im, rq, rm, lr, gvn, size, len, pages, which, exA, exT, room, trn, cnt, (nI (kM b)), (nI (bytB b)), (nI j), fs, fp, fd, KS, lb, ov) (fs + nI (swfB b)) = (rf, mem, reg, inp, im, rq, rm, lr, gvn, size, len, pages, which, exA, exT, room, trn, cnt, (nI (kM b)), (nI (bytB b)), (nI j), (fs + nI (swfB b)), fp, fd, KS, lb, ov) := rfl
  rw [e1, show gM_kind (rf, mem, reg, inp, im, rq, rm, lr, gvn, size, len, pages, which, exA, exT, room, trn, cnt, (nI (kM b)), (nI (bytB b)), (nI j), (fs + nI (swfB b)), fp, fd, KS, lb, ov) = nI (kM b) from rfl, t_mMak b hb]
  have h226 : ∀ (S D : Int32), fX5_find_b226 K (rf, mem, reg, inp, im, rq, rm, lr, gvn, size, len, pages, which, exA, exT, room, trn, cnt, (nI (kM b)), (nI (bytB b)), (nI j), S, fp, D, KS, lb, ov) x2 = fX5_find_b255 K (rf, mem, reg, inp, im, rq, rm, lr, gvn, size, len, pages, which, exA, exT, room, trn, cnt, (nI (kM b)), (nI (bytB b)), (nI j), (S + nI (if kC b = 16 then 4 else 3)), fp, D, KS, lb, ov) x2 (nI j) := by
    intro S D
    rw [fX5_find_b226, pLet_e, show gM_kind (rf, mem, reg, inp, im, rq, rm, lr, gvn, size, len, pages, which, exA, exT, room, trn, cnt, (nI (kM b)), (nI (bytB b)), (nI j), S, fp, D, KS, lb, ov) = nI (kM b) from rfl, show gM_foundSize (rf, mem, reg, inp, im, rq, rm, lr, gvn, size, len, pages, which, exA, exT, room, trn, cnt, (nI (kM b)), (nI (bytB b)), (nI j), S, fp, D, KS, lb, ov) = S from rfl, show gM_foundMany (rf, mem, reg, inp, im, rq, rm, lr, gvn, size, len, pages, which, exA, exT, room, trn, cnt, (nI (kM b)), (nI (bytB b)), (nI j), S, fp, D, KS, lb, ov) = nI j from rfl]
    by_cases h : kC b = 16
    · rw [if_pos ((t_16 b hb).1.mpr h), if_pos h, fX5_find_b251, pLet_e]
      rfl
    · rw [if_neg (fun z => h ((t_16 b hb).1.mp z)), if_neg h, fX5_find_b251, pLet_e]
      rfl
  by_cases hm : makB b = true
  · rw [if_pos hm, if_neg (show ¬ (1 : Int32) = 0 by decide), if_pos hm, if_pos hm]
    cases W with
    | none =>
      have hx : x4 = -1 := hw
      subst hx
      rw [if_pos (show (-1 : Int32) < 0 by decide), h226]
      have z1 : fs + nI (swfB b) - nI (sv none (makB b)) = fs + nI (swfB b) := by
        show fs + nI (swfB b) - 0 = _
        grind
      have z2 : fd + nI (dv none (makB b)) = fd := by
        show fd + 0 = _
        grind
      rw [z1, z2]
    | some b0 =>
      obtain ⟨hb0, hm0, w, hw1, hw2, hw3⟩ := hw
      subst hw2
      rw [if_neg (show ¬ nI w < 0 from nI_nlt (b := 0) (by omega) (by omega)), pIn_n (by omega) (by omega), cl_n (by omega), pLet_e, pLet_e]
      rw [show gM_kinds (rf, mem, reg, inp, im, rq, rm, lr, gvn, size, len, pages, which, exA, exT, room, trn, cnt, (nI (kM b)), (nI (bytB b)), (nI j), (fs + nI (swfB b)), fp, fd, KS, lb, ov) w = nI (kM b0) from hw3]
      have e2 : sM_foundDead (rf, mem, reg, inp, im, rq, rm, lr, gvn, size, len, pages, which, exA, exT, room, trn, cnt, (nI (kM b)), (nI (bytB b)), (nI j), (fs + nI (swfB b)), fp, fd, KS, lb, ov) (gM_foundDead (rf, mem, reg, inp, im, rq, rm, lr, gvn, size, len, pages, which, exA, exT, room, trn, cnt, (nI (kM b)), (nI (bytB b)), (nI j), (fs + nI (swfB b)), fp, fd, KS, lb, ov) + 1) = (rf, mem, reg, inp, im, rq, rm, lr, gvn, size, len, pages, which, exA, exT, room, trn, cnt, (nI (kM b)), (nI (bytB b)), (nI j), (fs + nI (swfB b)), fp, (fd + 1), KS, lb, ov) := rfl
      rw [e2, show gM_foundSize (rf, mem, reg, inp, im, rq, rm, lr, gvn, size, len, pages, which, exA, exT, room, trn, cnt, (nI (kM b)), (nI (bytB b)), (nI j), (fs + nI (swfB b)), fp, (fd + 1), KS, lb, ov) = fs + nI (swfB b) from rfl]
      have t0 := t_16 b0 hb0
      have t1 := t0.2.1 hm0
      have h222 : ∀ (x y : Int32), fX5_find_b222 K (rf, mem, reg, inp, im, rq, rm, lr, gvn, size, len, pages, which, exA, exT, room, trn, cnt, (nI (kM b)), (nI (bytB b)), (nI j), (fs + nI (swfB b)), fp, (fd + 1), KS, lb, ov) x2 x y = fX5_find_b255 K (rf, mem, reg, inp, im, rq, rm, lr, gvn, size, len, pages, which, exA, exT, room, trn, cnt, (nI (kM b)), (nI (bytB b)), (nI j), (y - x + nI (if kC b = 16 then 4 else 3)), fp, (fd + 1), KS, lb, ov) x2 (nI j) := by
        intro x y
        rw [fX5_find_b222, pLet_e]
        exact h226 (y - x) (fd + 1)
      have h198 : ∀ c : Int32, fX5_find_b198 K (rf, mem, reg, inp, im, rq, rm, lr, gvn, size, len, pages, which, exA, exT, room, trn, cnt, (nI (kM b)), (nI (bytB b)), (nI j), (fs + nI (swfB b)), fp, (fd + 1), KS, lb, ov) x2 (nI (kM b0)) c (fs + nI (swfB b)) = fX5_find_b255 K (rf, mem, reg, inp, im, rq, rm, lr, gvn, size, len, pages, which, exA, exT, room, trn, cnt, (nI (kM b)), (nI (bytB b)), (nI j), (fs + nI (swfB b) - c - nI (if cmpB b0 = true then swfB b0 else 0) + nI (if kC b = 16 then 4 else 3)), fp, (fd + 1), KS, lb, ov) x2 (nI j) := by
        intro c
        rw [fX5_find_b198]
        by_cases hc : cmpB b0 = true
        · rw [if_pos hc]
          by_cases h10 : nI (kM b0) = 10
          · rw [if_pos h10, fX5_find_b213, pLet_e, t1.1, h222]
          · rw [if_neg h10, if_pos ((t1.2.mpr hc).resolve_left h10), fX5_find_b213, pLet_e, t1.1, h222]
        · rw [if_neg hc, if_neg (fun z => hc (t1.2.mp (Or.inl z))), if_neg (fun z => hc (t1.2.mp (Or.inr z))), h222]
          rfl
      have zd : nI (dv (some b0) (makB b)) = 1 := by rw [hm]; rfl
      have zs : ∀ c : Nat, (if kC b0 = 16 then 4 else 3) = c → fs + nI (swfB b) - nI c - nI (if cmpB b0 = true then swfB b0 else 0) = fs + nI (swfB b) - nI (sv (some b0) (makB b)) := by
        intro c hc
        rw [hm]
        show _ = fs + nI (swfB b) - nI (sav b0)
        unfold sav
        rw [hc, ← nI_add]
        grind
      by_cases h16 : kC b0 = 16
      · rw [if_pos (t0.1.mpr h16), show (4 : Int32) = nI 4 from rfl, h198, zs 4 (if_pos h16), zd]
      · rw [if_neg (fun z => h16 (t0.1.mp z)), show (3 : Int32) = nI 3 from rfl, h198, zs 3 (if_neg h16), zd]
  · have hm' : makB b = false := by simpa using hm
    rw [if_neg hm, if_pos rfl, if_neg hm, if_neg hm]
    have z1 : fs + nI (swfB b) - nI (sv W (makB b)) + 0 = fs + nI (swfB b) := by
      have : sv W (makB b) = 0 := by rw [hm']; cases W <;> rfl
      rw [this]
      show fs + nI (swfB b) - 0 + 0 = _
      grind
    have z2 : fd + nI (dv W (makB b)) = fd := by
      have : dv W (makB b) = 0 := by rw [hm']; cases W <;> rfl
      rw [this]
      show fd + 0 = _
      grind
    rw [z1, z2]
set_option maxRecDepth 20000 in
theorem fd_loop {mem reg inp rq gvn size len pages which exA exT cnt : Nat → Int32} {rf im rm lr room trn lb ov : Int32} (hm : ∀ i, isB (mem i)) : ∀ (fu j a P : Nat) (W : Option Nat) (x4 kd by_ fs fd : Int32) (ks : Nat → Int32), j < 8 → 9 < j + fu → a < 256 → P < 256 → wts ks j x4 W →
    ∃ (kd' by' : Int32) (ks' : Nat → Int32) (P' : Nat), P' < 256 ∧ (∀ g, g < 8 → (P'.testBit g = true ↔ P.testBit g = true ∨ ∃ k, k < nby (dcl mem (8 - j) a) ∧ (a + k) % 256 / 32 = g)) ∧ (∀ pre q, (dcl mem (8 - j) a) = pre ++ [q] → ks' (j + pre.length) = nI (kM q.1)) ∧ (∀ i, i < j → ks' i = ks i) ∧
      fX5_find_b27 fu (rf, mem, reg, inp, im, rq, rm, lr, gvn, size, len, pages, which, exA, exT, room, trn, cnt, kd, by_, (nI j), fs, (nI P), fd, ks, lb, ov) (nI a) 1 x4 = fX5_find_b344 (rf, mem, reg, inp, im, rq, rm, lr, gvn, size, len, pages, which, exA, exT, room, trn, cnt, kd', by', (nI (j + (dcl mem (8 - j) a).length)), (fs + nI (szC (dcl mem (8 - j) a)) - nI (sv W (man (dcl mem (8 - j) a)))), (nI P'), (fd + nI (ndd (dcl mem (8 - j) a)) + nI (dv W (man (dcl mem (8 - j) a)))), ks', lb, ov) := by
  intro fu
  induction fu with
  | zero => intro j a P W x4 kd by_ fs fd ks h1 h2; omega
  | succ fu ih =>
    intro j a P W x4 kd by_ fs fd ks hj h2 ha hP hw
    have hbb := bN_e (hm a)
    have hd : (dcl mem (8 - j) a) = if kC (bN (mem a)) = 0 then [] else (bN (mem a), bN (mem ((a + 1) % 256))) :: (if endB (bN (mem a)) = true then [] else dcl mem (8 - (j + 1)) ((a + bytB (bN (mem a))) % 256)) := by
      rw [show 8 - j = (8 - (j + 1)) + 1 by omega]
      rfl
    rw [hd]
    generalize bN (mem a) = b at hbb
    generalize bN (mem ((a + 1) % 256)) = n2
    have hb := hbb.2
    rw [fX5_find_b27, if_neg (show ¬ (1 : Int32) = 0 by decide), look_e ha hb (show gM_memory (rf, mem, reg, inp, im, rq, rm, lr, gvn, size, len, pages, which, exA, exT, room, trn, cnt, kd, by_, (nI j), fs, (nI P), fd, ks, lb, ov) a = nI b from hbb.1), pB_e2]
    have e1 : sM_bytes (sM_kind (rf, mem, reg, inp, im, rq, rm, lr, gvn, size, len, pages, which, exA, exT, room, trn, cnt, kd, by_, (nI j), fs, (nI P), fd, ks, lb, ov) (nI (kM b))) (nI (bytB b)) = (rf, mem, reg, inp, im, rq, rm, lr, gvn, size, len, pages, which, exA, exT, room, trn, cnt, (nI (kM b)), (nI (bytB b)), (nI j), fs, (nI P), fd, ks, lb, ov) := rfl
    rw [e1, show gM_kind (rf, mem, reg, inp, im, rq, rm, lr, gvn, size, len, pages, which, exA, exT, room, trn, cnt, (nI (kM b)), (nI (bytB b)), (nI j), fs, (nI P), fd, ks, lb, ov) = nI (kM b) from rfl]
    by_cases hk : kC b = 0
    · rw [if_pos ((t_16 b hb).2.2.mpr hk), if_pos hk]
      refine ⟨nI (kM b), nI (bytB b), ks, P, hP, fun g hg => ⟨Or.inl, fun z => ?_⟩, fun pre q h => ?_, fun _ _ => rfl, ?_⟩
      · rcases z with z | ⟨k, hk, _⟩
        · exact z
        · exact absurd hk (by simp [nby])
      · have := congrArg List.length h
        simp at this
      · have z1 : fs + nI (szC []) - nI (sv W (man [])) = fs := by
          have : sv W (man []) = 0 := by cases W <;> rfl
          rw [this]
          show fs + 0 - 0 = fs
          grind
        have z2 : fd + nI (ndd []) + nI (dv W (man [])) = fd := by
          have : dv W (man []) = 0 := by cases W <;> rfl
          rw [this]
          show fd + 0 + 0 = fd
          grind
        rw [z1, z2]
        rfl
    · rw [if_neg (fun z => hk ((t_16 b hb).2.2.mp z)), if_neg hk, pIn_n ha (by omega), cl_n (by omega), pLet_e]
      rw [show gM_memory (rf, mem, reg, inp, im, rq, rm, lr, gvn, size, len, pages, which, exA, exT, room, trn, cnt, (nI (kM b)), (nI (bytB b)), (nI j), fs, (nI P), fd, ks, lb, ov) a = nI b from hbb.1, show gM_foundMany (rf, mem, reg, inp, im, rq, rm, lr, gvn, size, len, pages, which, exA, exT, room, trn, cnt, (nI (kM b)), (nI (bytB b)), (nI j), fs, (nI P), fd, ks, lb, ov) = nI j from rfl, pIn_n hj (by omega), cl_n (by omega), pLet_e, pLet_e, rd_e]
      have e2 : sM_kinds (rf, mem, reg, inp, im, rq, rm, lr, gvn, size, len, pages, which, exA, exT, room, trn, cnt, (nI (kM b)), (nI (bytB b)), (nI j), fs, (nI P), fd, ks, lb, ov) (upd (gM_kinds (rf, mem, reg, inp, im, rq, rm, lr, gvn, size, len, pages, which, exA, exT, room, trn, cnt, (nI (kM b)), (nI (bytB b)), (nI j), fs, (nI P), fd, ks, lb, ov)) j (nI (kM b))) = (rf, mem, reg, inp, im, rq, rm, lr, gvn, size, len, pages, which, exA, exT, room, trn, cnt, (nI (kM b)), (nI (bytB b)), (nI j), fs, (nI P), fd, (upd ks j (nI (kM b))), lb, ov) := rfl
      rw [e2, show gM_kind (rf, mem, reg, inp, im, rq, rm, lr, gvn, size, len, pages, which, exA, exT, room, trn, cnt, (nI (kM b)), (nI (bytB b)), (nI j), fs, (nI P), fd, (upd ks j (nI (kM b))), lb, ov) = nI (kM b) from rfl]
      obtain ⟨W1, hW1⟩ : ∃ W1, W1 = if neeB b = true then none else W := ⟨_, rfl⟩
      obtain ⟨y4, hy4⟩ : ∃ y4 : Int32, y4 = if neeB b = true then -1 else x4 := ⟨_, rfl⟩
      have hw1 : wts (upd ks j (nI (kM b))) j y4 W1 := by
        rw [hW1, hy4]
        by_cases hne : neeB b = true
        · rw [if_pos hne, if_pos hne]; rfl
        · rw [if_neg hne, if_neg hne]
          cases W with
          | none => exact hw
          | some b0 =>
            obtain ⟨w1, w2, w, w3, w4, w5⟩ := hw
            exact ⟨w1, w2, w, w3, w4, by rw [pk_un (by omega)]; exact w5⟩
      have go : (if rdv (nI (kM b)) (nI b) = 0 then (if nI (kM b) = 22 then fX5_find_b107 (fX5_find_b27 fu) (rf, mem, reg, inp, im, rq, rm, lr, gvn, size, len, pages, which, exA, exT, room, trn, cnt, (nI (kM b)), (nI (bytB b)), (nI j), fs, (nI P), fd, (upd ks j (nI (kM b))), lb, ov) (nI a) (nI b) else if nI (kM b) = 26 then fX5_find_b107 (fX5_find_b27 fu) (rf, mem, reg, inp, im, rq, rm, lr, gvn, size, len, pages, which, exA, exT, room, trn, cnt, (nI (kM b)), (nI (bytB b)), (nI j), fs, (nI P), fd, (upd ks j (nI (kM b))), lb, ov) (nI a) (nI b) else if nI (kM b) = 24 then fX5_find_b107 (fX5_find_b27 fu) (rf, mem, reg, inp, im, rq, rm, lr, gvn, size, len, pages, which, exA, exT, room, trn, cnt, (nI (kM b)), (nI (bytB b)), (nI j), fs, (nI P), fd, (upd ks j (nI (kM b))), lb, ov) (nI a) (nI b) else fX5_find_b110 (fX5_find_b27 fu) (rf, mem, reg, inp, im, rq, rm, lr, gvn, size, len, pages, which, exA, exT, room, trn, cnt, (nI (kM b)), (nI (bytB b)), (nI j), fs, (nI P), fd, (upd ks j (nI (kM b))), lb, ov) (nI a) x4 (nI b)) else fX5_find_b107 (fX5_find_b27 fu) (rf, mem, reg, inp, im, rq, rm, lr, gvn, size, len, pages, which, exA, exT, room, trn, cnt, (nI (kM b)), (nI (bytB b)), (nI j), fs, (nI P), fd, (upd ks j (nI (kM b))), lb, ov) (nI a) (nI b)) = fX5_find_b110 (fX5_find_b27 fu) (rf, mem, reg, inp, im, rq, rm, lr, gvn, size, len, pages, which, exA, exT, room, trn, cnt, (nI (kM b)), (nI (bytB b)), (nI j), fs, (nI P), fd, (upd ks j (nI (kM b))), lb, ov) (nI a) y4 (nI b) := by
        have hrd := tb_rd b hb
        rw [fX5_find_b107, hy4]
        by_cases hne : neeB b = true
        · rw [if_pos hne]
          have := hrd.mpr hne
          by_cases r0 : rdv (nI (kM b)) (nI b) = 0
          · rw [if_pos r0]
            by_cases r1 : nI (kM b) = 22
            · rw [if_pos r1]
            · rw [if_neg r1]
              by_cases r2 : nI (kM b) = 26
              · rw [if_pos r2]
              · rw [if_neg r2, if_pos (((this.resolve_left (fun z => z r0)).resolve_left r1).resolve_left r2)]
          · rw [if_neg r0]
        · have hr : ¬ (¬ rdv (nI (kM b)) (nI b) = 0 ∨ nI (kM b) = 22 ∨ nI (kM b) = 26 ∨ nI (kM b) = 24) := fun z => hne (hrd.mp z)
          rw [if_neg hne, if_pos (Classical.not_not.mp (fun z => hr (Or.inl z))), if_neg (fun z => hr (Or.inr (Or.inl z))), if_neg (fun z => hr (Or.inr (Or.inr (Or.inl z)))), if_neg (fun z => hr (Or.inr (Or.inr (Or.inr z))))]
      rw [go, f110 (W := W1) _ hb hj hw1]
      obtain ⟨P1, hP1, hPb, h255⟩ := f255 (mem := mem) (reg := reg) (inp := inp) (rq := rq) (gvn := gvn) (size := size) (len := len) (pages := pages) (which := which) (exA := exA) (exT := exT) (cnt := cnt) (ks := upd ks j (nI (kM b))) (rf := rf) (im := im) (rm := rm) (lr := lr) (room := room) (trn := trn) (lb := lb) (ov := ov) (fs := fs + nI (swfB b) - nI (sv W1 (makB b)) + (if makB b = true then nI (if kC b = 16 then 4 else 3) else 0)) (fd := fd + nI (dv W1 (makB b))) (x4 := if makB b = true then nI j else y4) (fX5_find_b27 fu) ha hb hj hP
      rw [h255]
      obtain ⟨W2, hW2⟩ : ∃ W2, W2 = if makB b = true then some b else W1 := ⟨_, rfl⟩
      have hw2 : wts (upd ks j (nI (kM b))) (j + 1) (if makB b = true then nI j else y4) W2 := by
        rw [hW2]
        by_cases hmk : makB b = true
        · rw [if_pos hmk, if_pos hmk]
          exact ⟨hb, hmk, j, by omega, rfl, pk_us⟩
        · rw [if_neg hmk, if_neg hmk]
          cases W1 with
          | none => exact hw1
          | some b0 =>
            obtain ⟨w1, w2, w, w3, w4, w5⟩ := hw1
            exact ⟨w1, w2, w, by omega, w4, w5⟩
      have hme := (t_facts b hb).1
      have sums := fun r => fd_sums fs fd W b n2 r
      rw [← hW1, ← hW2] at sums
      by_cases hstop : endB b = true ∨ 8 ≤ j + 1
      · rw [if_pos hstop]
        have hr : (if endB b = true then [] else dcl mem (8 - (j + 1)) ((a + bytB b) % 256)) = [] := by
          by_cases he : endB b = true
          · rw [if_pos he]
          · rw [if_neg he, show 8 - (j + 1) = 0 by have := hstop.resolve_left he; omega]
            rfl
        rw [hr]
        have hs := sums []
        have z2 : sv W2 (man []) = 0 := by cases W2 <;> rfl
        have z3 : dv W2 (man []) = 0 := by cases W2 <;> rfl
        obtain ⟨fu2, hfu⟩ : ∃ fu2, fu = fu2 + 1 := ⟨fu - 1, by omega⟩
        refine ⟨nI (kM b), nI (bytB b), upd ks j (nI (kM b)), P1, hP1, fun g hg => ?_, fun pre q h => ?_, fun i hi => pk_un (by omega), ?_⟩
        · rw [hPb g hg]
          rfl
        · have h1 : pre = [] := by
            have := congrArg List.length h
            simp at this
            exact this
          subst h1
          have h2 : (b, n2) = q := by injection h
          rw [← h2]
          show upd ks j (nI (kM b)) (j + 0) = _
          rw [Nat.add_zero, pk_us]
        · rw [← hs.1, ← hs.2, z2, z3, hfu, fX5_find_b27, if_pos rfl]
          have y1 : ∀ x : Int32, x + nI (szC []) - nI 0 = x := by
            intro x
            show x + 0 - 0 = x
            grind
          have y2 : ∀ x : Int32, x + nI (ndd []) + nI 0 = x := by
            intro x
            show x + 0 + 0 = x
            grind
          rw [y1, y2]
          rfl
      · have he : ¬ endB b = true := fun z => hstop (Or.inl z)
        rw [if_neg hstop, if_neg he]
        obtain ⟨kd', by', ks', P', i1, i2, i3, i5, i4⟩ := ih (j + 1) ((a + bytB b) % 256) P1 W2 (if makB b = true then nI j else y4) (nI (kM b)) (nI (bytB b)) (fs + nI (swfB b) - nI (sv W1 (makB b)) + (if makB b = true then nI (if kC b = 16 then 4 else 3) else 0)) (fd + nI (dv W1 (makB b))) (upd ks j (nI (kM b))) (by omega) (by omega) (Nat.mod_lt _ (by omega)) hP1 hw2
        generalize dcl mem (8 - (j + 1)) ((a + bytB b) % 256) = r at i2 i3 i4
        have hs := sums r
        refine ⟨kd', by', ks', P', i1, fun g hg => ?_, fun pre q h => ?_, fun i hi => (i5 i (by omega)).trans (pk_un (by omega)), ?_⟩
        · rw [i2 g hg, hPb g hg]
          have hnb : nby ((b, n2) :: r) = bytB b + nby r := rfl
          rw [hnb]
          constructor
          · intro z
            rcases z with (z | ⟨k, k1, k2⟩) | ⟨k, k1, k2⟩
            · exact Or.inl z
            · exact Or.inr ⟨k, by omega, k2⟩
            · exact Or.inr ⟨bytB b + k, by omega, by rw [← k2, show (a + (bytB b + k)) % 256 = ((a + bytB b) % 256 + k) % 256 by omega]⟩
          · intro z
            rcases z with z | ⟨k, k1, k2⟩
            · exact Or.inl (Or.inl z)
            · by_cases hk2 : k < bytB b
              · exact Or.inl (Or.inr ⟨k, hk2, k2⟩)
              · exact Or.inr ⟨k - bytB b, by omega, by rw [← k2, show ((a + bytB b) % 256 + (k - bytB b)) % 256 = (a + k) % 256 by omega]⟩
        · cases pre with
          | nil =>
            injection h with h1 h2
            rw [← h1]
            show ks' (j + 0) = _
            rw [Nat.add_zero, i5 j (by omega), pk_us]
          | cons z pre =>
            injection h with h1 h2
            have := i3 pre q h2
            rw [List.length_cons, show j + (pre.length + 1) = j + 1 + pre.length by omega]
            exact this
        · rw [i4, hs.1, hs.2, List.length_cons, show j + (r.length + 1) = j + 1 + r.length by omega]

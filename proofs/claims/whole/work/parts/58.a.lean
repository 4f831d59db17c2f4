/-! translating: the class -/
def bN (x : Int32) : Nat := x.toNatClampNeg
theorem bN_e {x : Int32} (h : isB x) : x = nI (bN x) ∧ bN x < 256 := by
  obtain ⟨n, hn, e⟩ := h
  subst e
  unfold bN
  rw [cl_n (by omega)]
  exact ⟨rfl, hn⟩
/-- the instructions that a block at a place takes, at most so many -/
def dcl (m : Nat → Int32) : Nat → Nat → List (Nat × Nat)
  | 0, _ => []
  | k + 1, a => if kC (bN (m a)) = 0 then [] else (bN (m a), bN (m ((a + 1) % 256))) :: (if endB (bN (m a)) = true then [] else dcl m k ((a + bytB (bN (m a))) % 256))
theorem dcl_len {m : Nat → Int32} : ∀ (k a : Nat), (dcl m k a).length ≤ k
  | 0, _ => Nat.le_refl 0
  | k + 1, a => by
    unfold dcl
    split
    · simp
    · split
      · simp
      · have := dcl_len (m := m) k ((a + bytB (bN (m a))) % 256)
        simp only [List.length_cons]
        omega
theorem dcl_mt {m : Nat → Int32} (hm : ∀ i, isB (m i)) : ∀ (k a : Nat), mt m a (dcl m k a)
  | 0, _ => trivial
  | k + 1, a => by
    unfold dcl
    have h1 := bN_e (hm a)
    have h2 := bN_e (hm ((a + 1) % 256))
    split
    · trivial
    · rename_i hk
      refine ⟨h1.1, h1.2, h2.2, hk, fun _ => h2.1, ?_⟩
      split
      · trivial
      · exact dcl_mt hm k _
theorem dcl_ed {m : Nat → Int32} : ∀ (k a : Nat) (pre : List (Nat × Nat)) (q : Nat × Nat) (r : List (Nat × Nat)), dcl m k a = pre ++ q :: r → r ≠ [] → endB q.1 = false
  | 0, _, pre, q, r, h, _ => by
    have := congrArg List.length h
    simp [dcl] at this
  | k + 1, a, pre, q, r, h, hr => by
    unfold dcl at h
    split at h
    · have := congrArg List.length h
      simp at this
    · cases pre with
      | nil =>
        injection h with h1 h2
        split at h2
        · exact absurd h2.symm hr
        · rename_i he
          rw [← h1]
          simpa using he
      | cons z pre =>
        injection h with h1 h2
        split at h2
        · have := congrArg List.length h2
          simp at this
        · exact dcl_ed k _ pre q r h2 hr
def raw (code : Nat → Int32) : Nat → List (Nat × Nat) → Prop
  | _, [] => True
  | k, q :: r => code k = nI (wd q.1 q.2 false) ∧ raw code (k + 1) r
theorem raw_app {code : Nat → Int32} : ∀ (l r : List (Nat × Nat)) (k : Nat), raw code k (l ++ r) ↔ raw code k l ∧ raw code (k + l.length) r
  | [], r, k => by simp [raw]
  | q :: l, r, k => by
    simp only [List.cons_append, raw, raw_app l r (k + 1), List.length_cons]
    rw [show k + 1 + l.length = k + (l.length + 1) by omega]
    exact ⟨fun h => ⟨⟨h.1, h.2.1⟩, h.2.2⟩, fun h => ⟨h.1.1, h.1.2, h.2⟩⟩
theorem raw_cong {c c' : Nat → Int32} : ∀ (l : List (Nat × Nat)) (k : Nat), (∀ j, k ≤ j → j < k + l.length → c' j = c j) → raw c k l → raw c' k l
  | [], _, _, _ => trivial
  | q :: l, k, h, ⟨h1, h2⟩ => ⟨by rw [h k (Nat.le_refl k) (by simp)]; exact h1, raw_cong l (k + 1) (fun j a b => h j (by omega) (by simp only [List.length_cons]; omega)) h2⟩
theorem cwd_cong {c c' : Nat → Int32} : ∀ (l : List (Nat × Nat)) (k : Nat), (∀ j, k ≤ j → j < k + l.length → c' j = c j) → cwd c k l → cwd c' k l
  | [], _, _, _ => trivial
  | q :: l, k, h, ⟨h1, h2⟩ => ⟨by rw [h k (Nat.le_refl k) (by simp)]; exact h1, cwd_cong l (k + 1) (fun j a b => h j (by omega) (by simp only [List.length_cons]; omega)) h2⟩
section TRC
variable {len beh siz ser exP lnk : Nat → Int32} {limit blocks filled trl fls dead : Int32} {p : Nat}
theorem dec_loop {mem : Nat → Int32} (hm : ∀ i, isB (mem i)) (hp : p < 256) : ∀ (fu i a : Nat) (code : Nat → Int32), i ≤ 8 → 8 < i + fu → a < 256 →
    ∃ code', fX0_decodeBlock_b8 fu (code, len, beh, siz, ser, exP, lnk, limit, blocks, filled, trl, fls, dead) mem (nI p) (nI a) (nI i) (nI i) = some (code', upd len p (nI (i + (dcl mem (8 - i) a).length)), upd beh p (nI ((a + nby (dcl mem (8 - i) a)) % 256)), siz, ser, exP, lnk, limit, blocks, filled, trl, fls, dead) ∧
      (∀ j, (j < 8 * p + i ∨ 8 * p + 8 ≤ j) → code' j = code j) ∧ raw code' (8 * p + i) (dcl mem (8 - i) a) := by
  intro fu
  induction fu with
  | zero => intro i a code h1 h2; omega
  | succ fu ih =>
    intro i a code h1 h2 ha
    have fin : ∀ (c : Nat → Int32) (n x : Nat), fX0_decodeBlock_b83 (c, len, beh, siz, ser, exP, lnk, limit, blocks, filled, trl, fls, dead) mem (nI p) (nI x) (nI n) = some (c, upd len p (nI n), upd beh p (nI x), siz, ser, exP, lnk, limit, blocks, filled, trl, fls, dead) := by
      intro c n x
      rw [fX0_decodeBlock_b83, pIn_n hp (by omega), cl_n (by omega)]
      simp only [pLet_e]
      rw [pIn_n hp (by omega)]
      rfl
    rw [fX0_decodeBlock_b8]
    by_cases h8 : i = 8
    · subst h8
      rw [if_pos (show (8 : Int32) ≤ nI 8 from nI_le (a := 8) (Nat.le_refl 8) (by omega)), fin]
      refine ⟨code, ?_, fun _ _ => rfl, trivial⟩
      rw [show dcl mem (8 - 8) a = [] from rfl, show nby [] = 0 from rfl, Nat.add_zero, Nat.mod_eq_of_lt ha]
      rfl
    · rw [if_neg (show ¬ (8 : Int32) ≤ nI i from nI_ge (b := 8) (by omega) (by omega))]
      have hb := bN_e (hm a)
      have hn := bN_e (hm ((a + 1) % 256))
      rw [w_decode ha hb.2 hn.2 hb.1 hn.1, pB_e2, pLet_e, w_kind hb.2 hn.2]
      have hd : dcl mem (8 - i) a = if kC (bN (mem a)) = 0 then [] else (bN (mem a), bN (mem ((a + 1) % 256))) :: (if endB (bN (mem a)) = true then [] else dcl mem (8 - (i + 1)) ((a + bytB (bN (mem a))) % 256)) := by
        rw [show 8 - i = (8 - (i + 1)) + 1 by omega]
        rfl
      rw [hd]
      generalize bN (mem a) = b at hb
      generalize bN (mem ((a + 1) % 256)) = n at hn
      by_cases hk : kC b = 0
      · rw [if_pos (show nI (kC b) = 0 by rw [hk]; rfl), if_pos hk, fin]
        refine ⟨code, ?_, fun _ _ => rfl, trivial⟩
        rw [show nby [] = 0 from rfl, Nat.add_zero, Nat.mod_eq_of_lt ha]
        rfl
      · rw [if_neg (show ¬ nI (kC b) = 0 from fun z => hk (nI_inj (by have := (kC_eq b hb.2).2; omega) (by omega) (b := 0) z)), if_neg hk]
        have e8 : nI p * 8 + nI i = nI (8 * p + i) := by
          rw [show (8 : Int32) = nI 8 from rfl, pk_mul, nI_add, Nat.mul_comm]
        rw [e8, pIn_n (by omega) (by omega), cl_n (by omega)]
        have hy := t_byt b hb.2
        simp only [pLet_e]
        rw [hy.1, add255 (by omega) (by omega), t_end b hb.2, nI_1]
        have st : sC_code (code, len, beh, siz, ser, exP, lnk, limit, blocks, filled, trl, fls, dead) (upd (gC_code (code, len, beh, siz, ser, exP, lnk, limit, blocks, filled, trl, fls, dead)) (8 * p + i) (nI (wd b n false))) = (upd code (8 * p + i) (nI (wd b n false)), len, beh, siz, ser, exP, lnk, limit, blocks, filled, trl, fls, dead) := rfl
        rw [st]
        by_cases he : endB b = true
        · rw [if_pos he, if_pos he, if_neg (show ¬ (1 : Int32) = 0 by decide), fin]
          refine ⟨_, ?_, fun j hj => pk_un (by omega), ⟨pk_us, trivial⟩⟩
          rw [show nby [(b, n)] = bytB b from rfl]
          rfl
        · rw [if_neg he, if_neg he, if_pos rfl]
          obtain ⟨code', a1, a2, a3⟩ := ih (i + 1) ((a + bytB b) % 256) (upd code (8 * p + i) (nI (wd b n false))) (by omega) (by omega) (Nat.mod_lt _ (by omega))
          refine ⟨code', ?_, fun j hj => ?_, ?_, ?_⟩
          · have q1 : i + ((b, n) :: dcl mem (8 - (i + 1)) ((a + bytB b) % 256)).length = i + 1 + (dcl mem (8 - (i + 1)) ((a + bytB b) % 256)).length := by
              rw [List.length_cons]; omega
            have q2 : (a + nby ((b, n) :: dcl mem (8 - (i + 1)) ((a + bytB b) % 256))) % 256 = ((a + bytB b) % 256 + nby (dcl mem (8 - (i + 1)) ((a + bytB b) % 256))) % 256 := by
              rw [show nby ((b, n) :: dcl mem (8 - (i + 1)) ((a + bytB b) % 256)) = bytB b + nby (dcl mem (8 - (i + 1)) ((a + bytB b) % 256)) from rfl]
              omega
            rw [a1, q1, q2]
          · rw [a2 j (by omega), pk_un (by omega)]
          · show code' (8 * p + i) = _
            rw [a2 _ (by omega), pk_us]
          · exact a3
theorem dec_e {mem code : Nat → Int32} (hm : ∀ i, isB (mem i)) (hp : p < 256) : ∃ code', fX0_decodeBlock (code, len, beh, siz, ser, exP, lnk, limit, blocks, filled, trl, fls, dead) mem (nI p) = some (code', upd len p (nI (dcl mem 8 p).length), upd beh p (nI ((p + nby (dcl mem 8 p)) % 256)), siz, ser, exP, lnk, limit, blocks, filled, trl, fls, dead) ∧
      (∀ j, (j < 8 * p ∨ 8 * p + 8 ≤ j) → code' j = code j) ∧ raw code' (8 * p) (dcl mem 8 p) := by
  rw [fX0_decodeBlock_e]
  have hfu : 8 < fuelX0_decodeBlock_8 := by unfold fuelX0_decodeBlock_8; omega
  generalize fuelX0_decodeBlock_8 = fu at hfu ⊢
  obtain ⟨c, a1, a2, a3⟩ := dec_loop (len := len) (beh := beh) (siz := siz) (ser := ser) (exP := exP) (lnk := lnk) (limit := limit) (blocks := blocks) (filled := filled) (trl := trl) (fls := fls) (dead := dead) hm hp fu 0 p code (by omega) (by omega) hp
  rw [Nat.zero_add] at a1
  exact ⟨c, a1, a2, a3⟩
end TRC

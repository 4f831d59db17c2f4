/-! the caches of the two, block by block -/
def lcF (exP lnk : Nat → Int32) (p : Nat) (t : Int32) : Int32 := if exP (2 * p) = t then lnk (2 * p) else if exP (2 * p + 1) = t then lnk (2 * p + 1) else 0
def lmF (exA exT : Nat → Int32) (p : Nat) (t : Int32) : Int32 := if exA (2 * p) = t then exT (2 * p) else if exA (2 * p + 1) = t then exT (2 * p + 1) else -1
structure LK (exP lnk exA exT : Nat → Int32) (p : Nat) : Prop where
  a : ∀ t, isB t → (lcF exP lnk p t = 0 ∧ lmF exA exT p t = -1) ∨ lcF exP lnk p t = lmF exA exT p t
  b : exA (2 * p) = -1 → exA (2 * p + 1) = -1
  c : exA (2 * p) = -1 ∨ (isB (exA (2 * p)) ∧ (exA (2 * p) = exP (2 * p) ∨ exA (2 * p) = exP (2 * p + 1)))
  d : exA (2 * p + 1) = -1 ∨ (isB (exA (2 * p + 1)) ∧ ¬ exA (2 * p + 1) = exA (2 * p) ∧ (exA (2 * p + 1) = exP (2 * p) ∨ exA (2 * p + 1) = exP (2 * p + 1)))
structure PR (mem code len beh siz ser exP lnk size lenM pages which exA exT : Nat → Int32) (l : List (Nat × Nat)) (T p : Nat) : Prop where
  ne : l ≠ []
  l8 : l.length ≤ 8
  mt : mt mem p l
  ed : ∀ pre q r, l = pre ++ q :: r → r ≠ [] → endB q.1 = false
  le : len p = nI l.length
  lm : lenM p = nI l.length
  be : beh p = nI ((p + nby l) % 256)
  cw : cwd code (8 * p) l
  sz : ∃ z, 1 ≤ z ∧ z ≤ 400 ∧ siz p = nI z ∧ size p = nI z
  se : ∃ k, 1 ≤ k ∧ k ≤ T ∧ ser p = nI k ∧ which p = nI k
  pg : ∀ g, g < 8 → (mtc pages g p ↔ tch beh g p)
  ex : ∀ pre q, l = pre ++ [q] → exP (2 * p) = (if leaB q.1 = true ∧ bytB q.1 = 2 then nI q.2 else -1) ∧ exP (2 * p + 1) = (if kC q.1 = 24 ∨ kC q.1 = 29 ∨ leaB q.1 = false then nI ((p + nby l) % 256) else -1)
  lk : LK exP lnk exA exT p
def PB (mem code len beh siz ser exP lnk size lenM pages which exA exT : Nat → Int32) (l : List (Nat × Nat)) (T p : Nat) : Prop :=
  (ser p = 0 ∧ size p = 0) ∨ PR mem code len beh siz ser exP lnk size lenM pages which exA exT l T p
structure RS (f : Bool) (e T : Nat) (ls : Nat → List (Nat × Nat)) (B : TB) (M : TM) : Prop where
  g : GR f (gG_state (gB_guest B)) (gM_reg M)
  bs : BI (gG_state (gB_guest B))
  br : BI (gM_reg M)
  m : gG_memory (gB_guest B) = gM_memory M
  mb : ∀ i, isB (gM_memory M i)
  wr : gG_written (gB_guest B) = -1
  q : QR 32 (gG_inputs (gB_guest B)) (gM_inputs M) (gM_inputMany M)
  qb : ∀ k i, k ≤ 32 → gM_inputMany M = nI k → i < k → isB (gM_inputs M i)
  o : gG_outputs (gB_guest B) = gM_given M
  gv : ∃ gn, gn ≤ e ∧ gG_given (gB_guest B) = nI gn
  ee : gB_executed B = nI e
  rq : QR 16 (gB_requests B) (gM_requests M) (gM_requestMany M)
  lr : gB_latestRequest B = gM_lastRequest M
  c0 : gM_counts M 0 = gB_executed B
  c1 : gM_counts M 1 = cnM (gM_size M)
  c2 : gM_counts M 2 = flM (gM_size M)
  c3 : gM_counts M 3 = gC_translated (gB_cache B)
  c4 : gM_counts M 4 = gB_invalidated B
  c5 : gM_counts M 5 = gC_flushes (gB_cache B)
  c6 : gM_counts M 6 = gB_lookups B
  c7 : gM_counts M 7 = gB_interpreted B
  c8 : gM_counts M 8 = gB_interrupts B
  c9 : gM_counts M 9 = gC_deadFlags (gB_cache B)
  c10 : gM_counts M 10 = gG_given (gB_guest B)
  c11 : gM_counts M 11 = gB_ending B
  t1 : gC_translated (gB_cache B) = nI T
  t2 : gM_translated M = nI T
  tb : T < 2 ^ 30
  li : ∃ r, 1 ≤ r ∧ r ≤ 400 ∧ gC_limit (gB_cache B) = nI r ∧ gM_room M = nI r
  bl : gC_blocks (gB_cache B) = cn (gC_serial (gB_cache B))
  fi : gC_filled (gB_cache B) = fl (gC_serial (gB_cache B)) (gC_size (gB_cache B))
  pb : ∀ p, p < 256 → PB (gM_memory M) (gC_code (gB_cache B)) (gC_length (gB_cache B)) (gC_behind (gB_cache B)) (gC_size (gB_cache B)) (gC_serial (gB_cache B)) (gC_exitPlace (gB_cache B)) (gC_linkedSerial (gB_cache B)) (gM_size M) (gM_length M) (gM_pages M) (gM_which M) (gM_exitAt M) (gM_exitTo M) (ls p) T p
section PBs
variable {mem code len beh siz ser exP lnk size lenM pages which exA exT : Nat → Int32} {l : List (Nat × Nat)} {T p : Nat}
theorem PR.nz (h : PR mem code len beh siz ser exP lnk size lenM pages which exA exT l T p) (hT : T < 2 ^ 30) : ¬ ser p = 0 ∧ ¬ size p ≤ 0 := by
  obtain ⟨k, k1, k2, k3, _⟩ := h.se
  obtain ⟨z, z1, z2, _, z4⟩ := h.sz
  rw [k3, z4]
  exact ⟨fun q => by have := nI_inj (a := k) (b := 0) (by omega) (by omega) q; omega, nI_ge (a := 0) (by omega) (by omega)⟩
theorem PB.iff (h : PB mem code len beh siz ser exP lnk size lenM pages which exA exT l T p) (hT : T < 2 ^ 30) : ser p = 0 ↔ size p ≤ 0 := by
  rcases h with h | h
  · rw [h.1, h.2]; exact ⟨fun _ => by decide, fun _ => rfl⟩
  · have := h.nz hT
    exact ⟨fun q => absurd q this.1, fun q => absurd q this.2⟩
theorem PB.of (h : PB mem code len beh siz ser exP lnk size lenM pages which exA exT l T p) (hs : ¬ ser p = 0) : PR mem code len beh siz ser exP lnk size lenM pages which exA exT l T p := by
  rcases h with h | h
  · exact absurd h.1 hs
  · exact h
theorem PR.nb (h : PR mem code len beh siz ser exP lnk size lenM pages which exA exT l T p) : 1 ≤ nby l ∧ nby l ≤ 16 := by
  have h1 := nby_le l (mt_mem l h.mt)
  have h2 := h.l8
  have h3 := h.ne
  have h4 : l.length ≠ 0 := fun q => h3 (List.length_eq_zero_iff.mp q)
  omega
theorem tch_n {nb g : Nat} (hp : p < 256) (hn : 1 ≤ nb) (hn2 : nb ≤ 16) (hg : g < 8) (hb : beh p = nI ((p + nb) % 256)) : tch beh g p ↔ (p / 32 = g ∨ (p + nb - 1) % 256 / 32 = g) := by
  unfold tch
  rw [hb, show (1 : Int32) = nI 1 from rfl, sub255 (by omega) (by omega), div32 (by omega), nI_eq (by omega) (by omega)]
  have : ((p + nb) % 256 + 255 * 1) % 256 = (p + nb - 1) % 256 := by omega
  rw [this]
theorem PR.win {g : Nat} (h : PR mem code len beh siz ser exP lnk size lenM pages which exA exT l T p) (hp : p < 256) (hg : g < 8) (ht : tch beh g p) : ∃ j, j < 47 ∧ p = (32 * g + 241 + j) % 256 := by
  have hn := h.nb
  rw [tch_n hp hn.1 hn.2 hg h.be] at ht
  generalize nby l = nb at hn ht
  rcases ht with ht | ht
  · exact ⟨p % 32 + 15, by omega, by omega⟩
  · exact ⟨(p + 256 + 15 - 32 * g) % 256, by omega, by omega⟩
theorem PB.drop {i : Nat} {x : Int32} (h : PB mem code len beh siz ser exP lnk size lenM pages which exA exT l T p) (hp : p < 256) (hi : i < 256) : PB (upd mem i x) code len beh siz (dS ser beh (i / 32)) exP lnk (mS size pages (i / 32)) lenM pages which exA exT l T p := by
  rcases h with h | h
  · left
    unfold dS mS
    rw [h.1, h.2]
    exact ⟨by split <;> rfl, by split <;> rfl⟩
  · have hpg := h.pg (i / 32) (by omega)
    by_cases ht : tch beh (i / 32) p
    · left
      unfold dS mS
      exact ⟨if_pos ⟨hp, ht⟩, if_pos ⟨hp, hpg.mpr ht⟩⟩
    · right
      have e1 : dS ser beh (i / 32) p = ser p := if_neg (fun z => ht z.2)
      have e2 : mS size pages (i / 32) p = size p := if_neg (fun z => ht (hpg.mp z.2))
      have hn := h.nb
      have ht' := ht
      rw [tch_n hp hn.1 hn.2 (by omega) h.be] at ht'
      refine ⟨h.ne, h.l8, mt_upd l hp h.mt (fun k hk => ?_), h.ed, h.le, h.lm, h.be, h.cw, by rw [e2]; exact h.sz, by rw [e1]; exact h.se, h.pg, h.ex, h.lk⟩
      generalize nby l = nb at hn ht' hk
      omega
theorem cn_eq {ls : Nat → List (Nat × Nat)} (h : ∀ p, p < 256 → PB mem code len beh siz ser exP lnk size lenM pages which exA exT (ls p) T p) (hT : T < 2 ^ 30) : cn ser = cnM size ∧ fl ser siz = flM size := by
  constructor
  · refine sm_congr fun i hi => ?_
    have q := (h i hi).iff hT
    by_cases e : ser i = 0
    · rw [if_pos e, if_pos (q.mp e)]
    · rw [if_neg e, if_neg (fun z => e (q.mpr z))]
  · refine sm_congr fun i hi => ?_
    have q := (h i hi).iff hT
    by_cases e : ser i = 0
    · rw [if_pos e, if_pos (q.mp e)]
    · rw [if_neg e, if_neg (fun z => e (q.mpr z))]
      obtain ⟨z, _, _, z3, z4⟩ := ((h i hi).of e).sz
      rw [z3, z4]
theorem M0 {ls : Nat → List (Nat × Nat)} (h : ∀ p, p < 256 → PB mem code len beh siz ser exP lnk size lenM pages which exA exT (ls p) T p) (hT : T < 2 ^ 30) : ∀ p, p < 256 → size p ≤ 0 → size p = 0 := by
  intro p hp hz
  rcases h p hp with q | q
  · exact q.2
  · exact absurd hz (q.nz hT).2
end PBs

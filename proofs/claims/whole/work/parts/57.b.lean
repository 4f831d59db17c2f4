/-! the caches of the two, block by block -/
def lcF (exP lnk : Nat → Int32) (p : Nat) (t : Int32) : Int32 := if exP (2 * p) = t then lnk (2 * p) else if exP (2 * p + 1) = t then lnk (2 * p + 1) else 0
def lmF (exA exT : Nat → Int32) (p : Nat) (t : Int32) : Int32 := if exA (2 * p) = t then exT (2 * p) else if exA (2 * p + 1) = t then exT (2 * p + 1) else -1
abbrev LK (exP lnk exA exT : Nat → Int32) (p : Nat) : Prop :=
  (∀ t, isB t → (lcF exP lnk p t = 0 ∧ lmF exA exT p t = -1) ∨ lcF exP lnk p t = lmF exA exT p t) ∧
  (exA (2 * p) = -1 → exA (2 * p + 1) = -1) ∧
  (exA (2 * p) = -1 ∨ (isB (exA (2 * p)) ∧ (exA (2 * p) = exP (2 * p) ∨ exA (2 * p) = exP (2 * p + 1)))) ∧
  (exA (2 * p + 1) = -1 ∨ (isB (exA (2 * p + 1)) ∧ ¬ exA (2 * p + 1) = exA (2 * p) ∧ (exA (2 * p + 1) = exP (2 * p) ∨ exA (2 * p + 1) = exP (2 * p + 1))))
theorem LK.a {exP lnk exA exT : Nat → Int32} {p : Nat} (h_ : LK exP lnk exA exT p) : ∀ t, isB t → (lcF exP lnk p t = 0 ∧ lmF exA exT p t = -1) ∨ lcF exP lnk p t = lmF exA exT p t := h_.1
theorem LK.b {exP lnk exA exT : Nat → Int32} {p : Nat} (h_ : LK exP lnk exA exT p) : exA (2 * p) = -1 → exA (2 * p + 1) = -1 := h_.2.1
theorem LK.c {exP lnk exA exT : Nat → Int32} {p : Nat} (h_ : LK exP lnk exA exT p) : exA (2 * p) = -1 ∨ (isB (exA (2 * p)) ∧ (exA (2 * p) = exP (2 * p) ∨ exA (2 * p) = exP (2 * p + 1))) := h_.2.2.1
theorem LK.d {exP lnk exA exT : Nat → Int32} {p : Nat} (h_ : LK exP lnk exA exT p) : exA (2 * p + 1) = -1 ∨ (isB (exA (2 * p + 1)) ∧ ¬ exA (2 * p + 1) = exA (2 * p) ∧ (exA (2 * p + 1) = exP (2 * p) ∨ exA (2 * p + 1) = exP (2 * p + 1))) := h_.2.2.2
abbrev PR (mem code len beh siz ser exP lnk size lenM pages which exA exT : Nat → Int32) (l : List (Nat × Nat)) (T p : Nat) : Prop :=
  (l ≠ []) ∧
  (l.length ≤ 8) ∧
  (mt mem p l) ∧
  (∀ pre q r, l = pre ++ q :: r → r ≠ [] → endB q.1 = false) ∧
  (len p = nI l.length) ∧
  (lenM p = nI l.length) ∧
  (beh p = nI ((p + nby l) % 256)) ∧
  (cwd code (8 * p) l) ∧
  (∃ z, 1 ≤ z ∧ z ≤ 400 ∧ siz p = nI z ∧ size p = nI z) ∧
  (∃ k, 1 ≤ k ∧ k ≤ T ∧ ser p = nI k ∧ which p = nI k) ∧
  (∀ g, g < 8 → (mtc pages g p ↔ tch beh g p)) ∧
  (∀ pre q, l = pre ++ [q] → exP (2 * p) = (if leaB q.1 = true ∧ bytB q.1 = 2 then nI q.2 else -1) ∧ exP (2 * p + 1) = (if kC q.1 = 24 ∨ kC q.1 = 29 ∨ leaB q.1 = false then nI ((p + nby l) % 256) else -1)) ∧
  (LK exP lnk exA exT p)
theorem PR.ne {mem code len beh siz ser exP lnk size lenM pages which exA exT : Nat → Int32} {l : List (Nat × Nat)} {T p : Nat} (h_ : PR mem code len beh siz ser exP lnk size lenM pages which exA exT l T p) : l ≠ [] := h_.1
theorem PR.l8 {mem code len beh siz ser exP lnk size lenM pages which exA exT : Nat → Int32} {l : List (Nat × Nat)} {T p : Nat} (h_ : PR mem code len beh siz ser exP lnk size lenM pages which exA exT l T p) : l.length ≤ 8 := h_.2.1
theorem PR.mt {mem code len beh siz ser exP lnk size lenM pages which exA exT : Nat → Int32} {l : List (Nat × Nat)} {T p : Nat} (h_ : PR mem code len beh siz ser exP lnk size lenM pages which exA exT l T p) : mt mem p l := h_.2.2.1
theorem PR.ed {mem code len beh siz ser exP lnk size lenM pages which exA exT : Nat → Int32} {l : List (Nat × Nat)} {T p : Nat} (h_ : PR mem code len beh siz ser exP lnk size lenM pages which exA exT l T p) : ∀ pre q r, l = pre ++ q :: r → r ≠ [] → endB q.1 = false := h_.2.2.2.1
theorem PR.le {mem code len beh siz ser exP lnk size lenM pages which exA exT : Nat → Int32} {l : List (Nat × Nat)} {T p : Nat} (h_ : PR mem code len beh siz ser exP lnk size lenM pages which exA exT l T p) : len p = nI l.length := h_.2.2.2.2.1
theorem PR.lm {mem code len beh siz ser exP lnk size lenM pages which exA exT : Nat → Int32} {l : List (Nat × Nat)} {T p : Nat} (h_ : PR mem code len beh siz ser exP lnk size lenM pages which exA exT l T p) : lenM p = nI l.length := h_.2.2.2.2.2.1
theorem PR.be {mem code len beh siz ser exP lnk size lenM pages which exA exT : Nat → Int32} {l : List (Nat × Nat)} {T p : Nat} (h_ : PR mem code len beh siz ser exP lnk size lenM pages which exA exT l T p) : beh p = nI ((p + nby l) % 256) := h_.2.2.2.2.2.2.1
theorem PR.cw {mem code len beh siz ser exP lnk size lenM pages which exA exT : Nat → Int32} {l : List (Nat × Nat)} {T p : Nat} (h_ : PR mem code len beh siz ser exP lnk size lenM pages which exA exT l T p) : cwd code (8 * p) l := h_.2.2.2.2.2.2.2.1
theorem PR.sz {mem code len beh siz ser exP lnk size lenM pages which exA exT : Nat → Int32} {l : List (Nat × Nat)} {T p : Nat} (h_ : PR mem code len beh siz ser exP lnk size lenM pages which exA exT l T p) : ∃ z, 1 ≤ z ∧ z ≤ 400 ∧ siz p = nI z ∧ size p = nI z := h_.2.2.2.2.2.2.2.2.1
theorem PR.se {mem code len beh siz ser exP lnk size lenM pages which exA exT : Nat → Int32} {l : List (Nat × Nat)} {T p : Nat} (h_ : PR mem code len beh siz ser exP lnk size lenM pages which exA exT l T p) : ∃ k, 1 ≤ k ∧ k ≤ T ∧ ser p = nI k ∧ which p = nI k := h_.2.2.2.2.2.2.2.2.2.1
theorem PR.pg {mem code len beh siz ser exP lnk size lenM pages which exA exT : Nat → Int32} {l : List (Nat × Nat)} {T p : Nat} (h_ : PR mem code len beh siz ser exP lnk size lenM pages which exA exT l T p) : ∀ g, g < 8 → (mtc pages g p ↔ tch beh g p) := h_.2.2.2.2.2.2.2.2.2.2.1
theorem PR.ex {mem code len beh siz ser exP lnk size lenM pages which exA exT : Nat → Int32} {l : List (Nat × Nat)} {T p : Nat} (h_ : PR mem code len beh siz ser exP lnk size lenM pages which exA exT l T p) : ∀ pre q, l = pre ++ [q] → exP (2 * p) = (if leaB q.1 = true ∧ bytB q.1 = 2 then nI q.2 else -1) ∧ exP (2 * p + 1) = (if kC q.1 = 24 ∨ kC q.1 = 29 ∨ leaB q.1 = false then nI ((p + nby l) % 256) else -1) := h_.2.2.2.2.2.2.2.2.2.2.2.1
theorem PR.lk {mem code len beh siz ser exP lnk size lenM pages which exA exT : Nat → Int32} {l : List (Nat × Nat)} {T p : Nat} (h_ : PR mem code len beh siz ser exP lnk size lenM pages which exA exT l T p) : LK exP lnk exA exT p := h_.2.2.2.2.2.2.2.2.2.2.2.2
def PB (mem code len beh siz ser exP lnk size lenM pages which exA exT : Nat → Int32) (l : List (Nat × Nat)) (T p : Nat) : Prop :=
  (ser p = 0 ∧ size p = 0) ∨ PR mem code len beh siz ser exP lnk size lenM pages which exA exT l T p
abbrev RS (f : Bool) (e T : Nat) (ls : Nat → List (Nat × Nat)) (B : TB) (M : TM) : Prop :=
  (GR f (gG_state (gB_guest B)) (gM_reg M)) ∧
  (BI (gG_state (gB_guest B))) ∧
  (BI (gM_reg M)) ∧
  (gG_memory (gB_guest B) = gM_memory M) ∧
  (∀ i, isB (gM_memory M i)) ∧
  (gG_written (gB_guest B) = -1) ∧
  (QR 32 (gG_inputs (gB_guest B)) (gM_inputs M) (gM_inputMany M)) ∧
  (∀ k i, k ≤ 32 → gM_inputMany M = nI k → i < k → isB (gM_inputs M i)) ∧
  (gG_outputs (gB_guest B) = gM_given M) ∧
  (∃ gn, gn ≤ e ∧ gG_given (gB_guest B) = nI gn) ∧
  (gB_executed B = nI e) ∧
  (QR 16 (gB_requests B) (gM_requests M) (gM_requestMany M)) ∧
  (gB_latestRequest B = gM_lastRequest M) ∧
  (gM_counts M 0 = gB_executed B) ∧
  (gM_counts M 1 = cnM (gM_size M)) ∧
  (gM_counts M 2 = flM (gM_size M)) ∧
  (gM_counts M 3 = gC_translated (gB_cache B)) ∧
  (gM_counts M 4 = gB_invalidated B) ∧
  (gM_counts M 5 = gC_flushes (gB_cache B)) ∧
  (gM_counts M 6 = gB_lookups B) ∧
  (gM_counts M 7 = gB_interpreted B) ∧
  (gM_counts M 8 = gB_interrupts B) ∧
  (gM_counts M 9 = gC_deadFlags (gB_cache B)) ∧
  (gM_counts M 10 = gG_given (gB_guest B)) ∧
  (gM_counts M 11 = gB_ending B) ∧
  (gC_translated (gB_cache B) = nI T) ∧
  (gM_translated M = nI T) ∧
  (T < 2 ^ 30) ∧
  (∃ r, 1 ≤ r ∧ r ≤ 400 ∧ gC_limit (gB_cache B) = nI r ∧ gM_room M = nI r) ∧
  (gC_blocks (gB_cache B) = cn (gC_serial (gB_cache B))) ∧
  (gC_filled (gB_cache B) = fl (gC_serial (gB_cache B)) (gC_size (gB_cache B))) ∧
  (∀ p, p < 256 → PB (gM_memory M) (gC_code (gB_cache B)) (gC_length (gB_cache B)) (gC_behind (gB_cache B)) (gC_size (gB_cache B)) (gC_serial (gB_cache B)) (gC_exitPlace (gB_cache B)) (gC_linkedSerial (gB_cache B)) (gM_size M) (gM_length M) (gM_pages M) (gM_which M) (gM_exitAt M) (gM_exitTo M) (ls p) T p) ∧
  (gM_refusal M = 0)
theorem RS.g {f : Bool} {e T : Nat} {ls : Nat → List (Nat × Nat)} {B : TB} {M : TM} (h_ : RS f e T ls B M) : GR f (gG_state (gB_guest B)) (gM_reg M) := h_.1
theorem RS.bs {f : Bool} {e T : Nat} {ls : Nat → List (Nat × Nat)} {B : TB} {M : TM} (h_ : RS f e T ls B M) : BI (gG_state (gB_guest B)) := h_.2.1
theorem RS.br {f : Bool} {e T : Nat} {ls : Nat → List (Nat × Nat)} {B : TB} {M : TM} (h_ : RS f e T ls B M) : BI (gM_reg M) := h_.2.2.1
theorem RS.m {f : Bool} {e T : Nat} {ls : Nat → List (Nat × Nat)} {B : TB} {M : TM} (h_ : RS f e T ls B M) : gG_memory (gB_guest B) = gM_memory M := h_.2.2.2.1
theorem RS.mb {f : Bool} {e T : Nat} {ls : Nat → List (Nat × Nat)} {B : TB} {M : TM} (h_ : RS f e T ls B M) : ∀ i, isB (gM_memory M i) := h_.2.2.2.2.1
theorem RS.wr {f : Bool} {e T : Nat} {ls : Nat → List (Nat × Nat)} {B : TB} {M : TM} (h_ : RS f e T ls B M) : gG_written (gB_guest B) = -1 := h_.2.2.2.2.2.1
theorem RS.q {f : Bool} {e T : Nat} {ls : Nat → List (Nat × Nat)} {B : TB} {M : TM} (h_ : RS f e T ls B M) : QR 32 (gG_inputs (gB_guest B)) (gM_inputs M) (gM_inputMany M) := h_.2.2.2.2.2.2.1
theorem RS.qb {f : Bool} {e T : Nat} {ls : Nat → List (Nat × Nat)} {B : TB} {M : TM} (h_ : RS f e T ls B M) : ∀ k i, k ≤ 32 → gM_inputMany M = nI k → i < k → isB (gM_inputs M i) := h_.2.2.2.2.2.2.2.1
theorem RS.o {f : Bool} {e T : Nat} {ls : Nat → List (Nat × Nat)} {B : TB} {M : TM} (h_ : RS f e T ls B M) : gG_outputs (gB_guest B) = gM_given M := h_.2.2.2.2.2.2.2.2.1
theorem RS.gv {f : Bool} {e T : Nat} {ls : Nat → List (Nat × Nat)} {B : TB} {M : TM} (h_ : RS f e T ls B M) : ∃ gn, gn ≤ e ∧ gG_given (gB_guest B) = nI gn := h_.2.2.2.2.2.2.2.2.2.1
theorem RS.ee {f : Bool} {e T : Nat} {ls : Nat → List (Nat × Nat)} {B : TB} {M : TM} (h_ : RS f e T ls B M) : gB_executed B = nI e := h_.2.2.2.2.2.2.2.2.2.2.1
theorem RS.rq {f : Bool} {e T : Nat} {ls : Nat → List (Nat × Nat)} {B : TB} {M : TM} (h_ : RS f e T ls B M) : QR 16 (gB_requests B) (gM_requests M) (gM_requestMany M) := h_.2.2.2.2.2.2.2.2.2.2.2.1
theorem RS.lr {f : Bool} {e T : Nat} {ls : Nat → List (Nat × Nat)} {B : TB} {M : TM} (h_ : RS f e T ls B M) : gB_latestRequest B = gM_lastRequest M := h_.2.2.2.2.2.2.2.2.2.2.2.2.1
theorem RS.c0 {f : Bool} {e T : Nat} {ls : Nat → List (Nat × Nat)} {B : TB} {M : TM} (h_ : RS f e T ls B M) : gM_counts M 0 = gB_executed B := h_.2.2.2.2.2.2.2.2.2.2.2.2.2.1
theorem RS.c1 {f : Bool} {e T : Nat} {ls : Nat → List (Nat × Nat)} {B : TB} {M : TM} (h_ : RS f e T ls B M) : gM_counts M 1 = cnM (gM_size M) := h_.2.2.2.2.2.2.2.2.2.2.2.2.2.2.1
theorem RS.c2 {f : Bool} {e T : Nat} {ls : Nat → List (Nat × Nat)} {B : TB} {M : TM} (h_ : RS f e T ls B M) : gM_counts M 2 = flM (gM_size M) := h_.2.2.2.2.2.2.2.2.2.2.2.2.2.2.2.1
theorem RS.c3 {f : Bool} {e T : Nat} {ls : Nat → List (Nat × Nat)} {B : TB} {M : TM} (h_ : RS f e T ls B M) : gM_counts M 3 = gC_translated (gB_cache B) := h_.2.2.2.2.2.2.2.2.2.2.2.2.2.2.2.2.1
theorem RS.c4 {f : Bool} {e T : Nat} {ls : Nat → List (Nat × Nat)} {B : TB} {M : TM} (h_ : RS f e T ls B M) : gM_counts M 4 = gB_invalidated B := h_.2.2.2.2.2.2.2.2.2.2.2.2.2.2.2.2.2.1
theorem RS.c5 {f : Bool} {e T : Nat} {ls : Nat → List (Nat × Nat)} {B : TB} {M : TM} (h_ : RS f e T ls B M) : gM_counts M 5 = gC_flushes (gB_cache B) := h_.2.2.2.2.2.2.2.2.2.2.2.2.2.2.2.2.2.2.1
theorem RS.c6 {f : Bool} {e T : Nat} {ls : Nat → List (Nat × Nat)} {B : TB} {M : TM} (h_ : RS f e T ls B M) : gM_counts M 6 = gB_lookups B := h_.2.2.2.2.2.2.2.2.2.2.2.2.2.2.2.2.2.2.2.1
theorem RS.c7 {f : Bool} {e T : Nat} {ls : Nat → List (Nat × Nat)} {B : TB} {M : TM} (h_ : RS f e T ls B M) : gM_counts M 7 = gB_interpreted B := h_.2.2.2.2.2.2.2.2.2.2.2.2.2.2.2.2.2.2.2.2.1
theorem RS.c8 {f : Bool} {e T : Nat} {ls : Nat → List (Nat × Nat)} {B : TB} {M : TM} (h_ : RS f e T ls B M) : gM_counts M 8 = gB_interrupts B := h_.2.2.2.2.2.2.2.2.2.2.2.2.2.2.2.2.2.2.2.2.2.1
theorem RS.c9 {f : Bool} {e T : Nat} {ls : Nat → List (Nat × Nat)} {B : TB} {M : TM} (h_ : RS f e T ls B M) : gM_counts M 9 = gC_deadFlags (gB_cache B) := h_.2.2.2.2.2.2.2.2.2.2.2.2.2.2.2.2.2.2.2.2.2.2.1
theorem RS.c10 {f : Bool} {e T : Nat} {ls : Nat → List (Nat × Nat)} {B : TB} {M : TM} (h_ : RS f e T ls B M) : gM_counts M 10 = gG_given (gB_guest B) := h_.2.2.2.2.2.2.2.2.2.2.2.2.2.2.2.2.2.2.2.2.2.2.2.1
theorem RS.c11 {f : Bool} {e T : Nat} {ls : Nat → List (Nat × Nat)} {B : TB} {M : TM} (h_ : RS f e T ls B M) : gM_counts M 11 = gB_ending B := h_.2.2.2.2.2.2.2.2.2.2.2.2.2.2.2.2.2.2.2.2.2.2.2.2.1
theorem RS.t1 {f : Bool} {e T : Nat} {ls : Nat → List (Nat × Nat)} {B : TB} {M : TM} (h_ : RS f e T ls B M) : gC_translated (gB_cache B) = nI T := h_.2.2.2.2.2.2.2.2.2.2.2.2.2.2.2.2.2.2.2.2.2.2.2.2.2.1
theorem RS.t2 {f : Bool} {e T : Nat} {ls : Nat → List (Nat × Nat)} {B : TB} {M : TM} (h_ : RS f e T ls B M) : gM_translated M = nI T := h_.2.2.2.2.2.2.2.2.2.2.2.2.2.2.2.2.2.2.2.2.2.2.2.2.2.2.1
theorem RS.tb {f : Bool} {e T : Nat} {ls : Nat → List (Nat × Nat)} {B : TB} {M : TM} (h_ : RS f e T ls B M) : T < 2 ^ 30 := h_.2.2.2.2.2.2.2.2.2.2.2.2.2.2.2.2.2.2.2.2.2.2.2.2.2.2.2.1
theorem RS.li {f : Bool} {e T : Nat} {ls : Nat → List (Nat × Nat)} {B : TB} {M : TM} (h_ : RS f e T ls B M) : ∃ r, 1 ≤ r ∧ r ≤ 400 ∧ gC_limit (gB_cache B) = nI r ∧ gM_room M = nI r := h_.2.2.2.2.2.2.2.2.2.2.2.2.2.2.2.2.2.2.2.2.2.2.2.2.2.2.2.2.1
theorem RS.bl {f : Bool} {e T : Nat} {ls : Nat → List (Nat × Nat)} {B : TB} {M : TM} (h_ : RS f e T ls B M) : gC_blocks (gB_cache B) = cn (gC_serial (gB_cache B)) := h_.2.2.2.2.2.2.2.2.2.2.2.2.2.2.2.2.2.2.2.2.2.2.2.2.2.2.2.2.2.1
theorem RS.fi {f : Bool} {e T : Nat} {ls : Nat → List (Nat × Nat)} {B : TB} {M : TM} (h_ : RS f e T ls B M) : gC_filled (gB_cache B) = fl (gC_serial (gB_cache B)) (gC_size (gB_cache B)) := h_.2.2.2.2.2.2.2.2.2.2.2.2.2.2.2.2.2.2.2.2.2.2.2.2.2.2.2.2.2.2.1
theorem RS.pb {f : Bool} {e T : Nat} {ls : Nat → List (Nat × Nat)} {B : TB} {M : TM} (h_ : RS f e T ls B M) : ∀ p, p < 256 → PB (gM_memory M) (gC_code (gB_cache B)) (gC_length (gB_cache B)) (gC_behind (gB_cache B)) (gC_size (gB_cache B)) (gC_serial (gB_cache B)) (gC_exitPlace (gB_cache B)) (gC_linkedSerial (gB_cache B)) (gM_size M) (gM_length M) (gM_pages M) (gM_which M) (gM_exitAt M) (gM_exitTo M) (ls p) T p := h_.2.2.2.2.2.2.2.2.2.2.2.2.2.2.2.2.2.2.2.2.2.2.2.2.2.2.2.2.2.2.2.1
theorem RS.rf {f : Bool} {e T : Nat} {ls : Nat → List (Nat × Nat)} {B : TB} {M : TM} (h_ : RS f e T ls B M) : gM_refusal M = 0 := h_.2.2.2.2.2.2.2.2.2.2.2.2.2.2.2.2.2.2.2.2.2.2.2.2.2.2.2.2.2.2.2.2
section PBs
variable {mem code len beh siz ser exP lnk size lenM pages which exA exT : Nat → Int32} {l : List (Nat × Nat)} {T p : Nat}
theorem PR.nz (h : PR mem code len beh siz ser exP lnk size lenM pages which exA exT l T p) (hT : T < 2 ^ 30) : ¬ ser p = 0 ∧ ¬ size p ≤ 0 := by
  obtain ⟨k, k1, k2, k3, _⟩ := h.se
  obtain ⟨z, z1, z2, _, z4⟩ := h.sz
  rw [k3, z4]
  exact ⟨fun q => by have := nI_inj (a := k) (b := 0) (by omega) (by omega) q; omega, nI_ge (a := 0) (by omega) (by omega)⟩
theorem PB.iff (h : PB mem code len beh siz ser exP lnk size lenM pages which exA exT l T p) (hT : T < 2 ^ 30) : ser p = 0 ↔ size p ≤ 0 := by
  rcases h with h | h
  · rw [h.1, h.2]; exact ⟨fun _ => by decide, fun _ => rfl⟩
  · have := h.nz hT
    exact ⟨fun q => absurd q this.1, fun q => absurd q this.2⟩
theorem PB.of (h : PB mem code len beh siz ser exP lnk size lenM pages which exA exT l T p) (hs : ¬ ser p = 0) : PR mem code len beh siz ser exP lnk size lenM pages which exA exT l T p := by
  rcases h with h | h
  · exact absurd h.1 hs
  · exact h
theorem PR.nb (h : PR mem code len beh siz ser exP lnk size lenM pages which exA exT l T p) : 1 ≤ nby l ∧ nby l ≤ 16 := by
  have h1 := nby_le l (mt_mem l h.mt)
  have h2 := h.l8
  have h3 := h.ne
  have h4 : l.length ≠ 0 := fun q => h3 (List.length_eq_zero_iff.mp q)
  omega
theorem tch_n {nb g : Nat} (hp : p < 256) (hn : 1 ≤ nb) (hn2 : nb ≤ 16) (hg : g < 8) (hb : beh p = nI ((p + nb) % 256)) : tch beh g p ↔ (p / 32 = g ∨ (p + nb - 1) % 256 / 32 = g) := by
  unfold tch
  rw [hb, show (1 : Int32) = nI 1 from rfl, sub255 (by omega) (by omega), div32 (by omega), nI_eq (by omega) (by omega)]
  have : ((p + nb) % 256 + 255 * 1) % 256 = (p + nb - 1) % 256 := by omega
  rw [this]
theorem PR.win {g : Nat} (h : PR mem code len beh siz ser exP lnk size lenM pages which exA exT l T p) (hp : p < 256) (hg : g < 8) (ht : tch beh g p) : ∃ j, j < 47 ∧ p = (32 * g + 241 + j) % 256 := by
  have hn := h.nb
  rw [tch_n hp hn.1 hn.2 hg h.be] at ht
  generalize nby l = nb at hn ht
  rcases ht with ht | ht
  · exact ⟨p % 32 + 15, by omega, by omega⟩
  · exact ⟨(p + 256 + 15 - 32 * g) % 256, by omega, by omega⟩
theorem PB.drop {i : Nat} {x : Int32} (h : PB mem code len beh siz ser exP lnk size lenM pages which exA exT l T p) (hp : p < 256) (hi : i < 256) : PB (upd mem i x) code len beh siz (dS ser beh (i / 32)) exP lnk (mS size pages (i / 32)) lenM pages which exA exT l T p := by
  rcases h with h | h
  · left
    unfold dS mS
    rw [h.1, h.2]
    exact ⟨by split <;> rfl, by split <;> rfl⟩
  · have hpg := h.pg (i / 32) (by omega)
    by_cases ht : tch beh (i / 32) p
    · left
      unfold dS mS
      exact ⟨if_pos ⟨hp, ht⟩, if_pos ⟨hp, hpg.mpr ht⟩⟩
    · right
      have e1 : dS ser beh (i / 32) p = ser p := if_neg (fun z => ht z.2)
      have e2 : mS size pages (i / 32) p = size p := if_neg (fun z => ht (hpg.mp z.2))
      have hn := h.nb
      have ht' := ht
      rw [tch_n hp hn.1 hn.2 (by omega) h.be] at ht'
      refine ⟨h.ne, h.l8, mt_upd l hp h.mt (fun k hk => ?_), h.ed, h.le, h.lm, h.be, h.cw, by rw [e2]; exact h.sz, by rw [e1]; exact h.se, h.pg, h.ex, h.lk⟩
      generalize nby l = nb at hn ht' hk
      omega
theorem cn_eq {ls : Nat → List (Nat × Nat)} (h : ∀ p, p < 256 → PB mem code len beh siz ser exP lnk size lenM pages which exA exT (ls p) T p) (hT : T < 2 ^ 30) : cn ser = cnM size ∧ fl ser siz = flM size := by
  constructor
  · refine sm_congr fun i hi => ?_
    have q := (h i hi).iff hT
    by_cases e : ser i = 0
    · rw [if_pos e, if_pos (q.mp e)]
    · rw [if_neg e, if_neg (fun z => e (q.mpr z))]
  · refine sm_congr fun i hi => ?_
    have q := (h i hi).iff hT
    by_cases e : ser i = 0
    · rw [if_pos e, if_pos (q.mp e)]
    · rw [if_neg e, if_neg (fun z => e (q.mpr z))]
      obtain ⟨z, _, _, z3, z4⟩ := ((h i hi).of e).sz
      rw [z3, z4]
theorem M0 {ls : Nat → List (Nat × Nat)} (h : ∀ p, p < 256 → PB mem code len beh siz ser exP lnk size lenM pages which exA exT (ls p) T p) (hT : T < 2 ^ 30) : ∀ p, p < 256 → size p ≤ 0 → size p = 0 := by
  intro p hp hz
  rcases h p hp with q | q
  · exact q.2
  · exact absurd hz (q.nz hT).2
end PBs

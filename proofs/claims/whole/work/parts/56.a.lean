/-! flags: the two ways to make them agree; what registers are -/
theorem sf_mk {R : Nat → Int32} {x c r : Int32} (h1 : x &&& 255 = 0 ↔ r &&& 255 = 0) (h2 : c = (r >>> ((8 : Int32) &&& 31)) &&& 1) (h3 : (x >>> ((7 : Int32) &&& 31)) &&& 1 = (r >>> ((7 : Int32) &&& 31)) &&& 1) : sfF R x c = mkF R r := by
  unfold sfF mkF
  rw [h2, h3]
  by_cases h : r &&& 255 = 0
  · rw [if_pos h, if_pos (h1.mpr h)]
  · rw [if_neg h, if_neg (fun z => h (h1.mp z))]
theorem mkF_up {R : Nat → Int32} {r y : Int32} {d : Nat} (hd : d < 5) : upd (mkF R r) d y = mkF (upd R d y) r := by
  unfold mkF
  funext i
  simp only [upd]
  by_cases h7 : i = 7
  · subst h7; simp only [if_true, if_neg (show ¬ 7 = d by omega)]
  · by_cases h6 : i = 6
    · subst h6; simp only [if_true, if_neg (show ¬ 6 = d by omega), if_neg (show ¬ 6 = 7 by omega)]
    · by_cases h5 : i = 5
      · subst h5; simp only [if_true, if_neg (show ¬ 5 = d by omega), if_neg (show ¬ 5 = 7 by omega), if_neg (show ¬ 5 = 6 by omega)]
      · simp only [if_neg h7, if_neg h6, if_neg h5]
theorem mkF_at {R : Nat → Int32} {r : Int32} {i : Nat} (h5 : i ≠ 5) (h6 : i ≠ 6) (h7 : i ≠ 7) : mkF R r i = R i := by
  unfold mkF
  rw [pk_un h7, pk_un h6, pk_un h5]
/-- the registers of the two: alike but for the flags, or all alike -/
def GR (f : Bool) (st reg : Nat → Int32) : Prop := (∀ i, i ≠ 5 → i ≠ 6 → i ≠ 7 → st i = reg i) ∧ (f = true → st = reg)
theorem GR.mk {f f' : Bool} {st reg : Nat → Int32} (h : GR f st reg) (r : Int32) : GR f' (mkF st r) (mkF reg r) := by
  have e : mkF st r = mkF reg r := by
    funext i
    by_cases h7 : i = 7
    · subst h7; unfold mkF; rw [pk_us, pk_us]
    · by_cases h6 : i = 6
      · subst h6; unfold mkF; rw [pk_un (by omega), pk_us, pk_un (by omega), pk_us]
      · by_cases h5 : i = 5
        · subst h5; unfold mkF; rw [pk_un (by omega), pk_un (by omega), pk_us, pk_un (by omega), pk_un (by omega), pk_us]
        · rw [mkF_at h5 h6 h7, mkF_at h5 h6 h7]
          exact h.1 i h5 h6 h7
  exact ⟨fun i _ _ _ => by rw [e], fun _ => e⟩
theorem GR.up {f : Bool} {st reg : Nat → Int32} (h : GR f st reg) (i : Nat) (x : Int32) : GR f (upd st i x) (upd reg i x) := by
  refine ⟨fun j h5 h6 h7 => ?_, fun hf => by rw [h.2 hf]⟩
  by_cases e : j = i
  · subst e; rw [pk_us, pk_us]
  · rw [pk_un e, pk_un e]; exact h.1 j h5 h6 h7
theorem GR.left {f : Bool} {st reg : Nat → Int32} (h : GR f st reg) (r : Int32) : GR false st (mkF reg r) :=
  ⟨fun i h5 h6 h7 => by rw [mkF_at h5 h6 h7]; exact h.1 i h5 h6 h7, fun q => by cases q⟩
/-- bytes all, the four single bits 0 or 1 -/
def isF (x : Int32) : Prop := x = 0 ∨ x = 1
def BI (st : Nat → Int32) : Prop := (∀ i, isB (st i)) ∧ isF (st 5) ∧ isF (st 6) ∧ isF (st 7) ∧ isF (st 8)
theorem isF_B {x : Int32} (h : isF x) : isB x := by
  rcases h with rfl | rfl
  · exact ⟨0, by omega, rfl⟩
  · exact ⟨1, by omega, rfl⟩
theorem isF_and (x : Int32) : isF (x &&& 1) := by
  obtain ⟨j, hj, e⟩ := pk_andE x (m := 1) 1 rfl
  rw [e]
  rcases (show j = 0 ∨ j = 1 by omega) with h | h
  · subst h; exact Or.inl rfl
  · subst h; exact Or.inr rfl
theorem BI.up {st : Nat → Int32} (h : BI st) {i : Nat} {x : Int32} (hx : isB x) (hi : i < 5 ∨ 8 < i) : BI (upd st i x) := by
  refine ⟨fun j => ?_, ?_, ?_, ?_, ?_⟩
  · by_cases e : j = i
    · subst e; rw [pk_us]; exact hx
    · rw [pk_un e]; exact h.1 j
  · rw [pk_un (by omega)]; exact h.2.1
  · rw [pk_un (by omega)]; exact h.2.2.1
  · rw [pk_un (by omega)]; exact h.2.2.2.1
  · rw [pk_un (by omega)]; exact h.2.2.2.2
theorem BI.up8 {st : Nat → Int32} (h : BI st) {x : Int32} (hx : isF x) : BI (upd st 8 x) := by
  refine ⟨fun j => ?_, ?_, ?_, ?_, ?_⟩
  · by_cases e : j = 8
    · subst e; rw [pk_us]; exact isF_B hx
    · rw [pk_un e]; exact h.1 j
  · rw [pk_un (by omega)]; exact h.2.1
  · rw [pk_un (by omega)]; exact h.2.2.1
  · rw [pk_un (by omega)]; exact h.2.2.2.1
  · rw [pk_us]; exact hx
theorem BI.fl_ {st : Nat → Int32} (h : BI st) (r : Int32) : BI (mkF st r) := by
  have f5 : isF (if r &&& 255 = 0 then (1 : Int32) else 0) := by
    by_cases q : r &&& 255 = 0
    · rw [if_pos q]; exact Or.inr rfl
    · rw [if_neg q]; exact Or.inl rfl
  have a5 : mkF st r 5 = (if r &&& 255 = 0 then (1 : Int32) else 0) := by unfold mkF; rw [pk_un (by omega), pk_un (by omega), pk_us]
  have a6 : mkF st r 6 = (r >>> ((8 : Int32) &&& 31)) &&& 1 := by unfold mkF; rw [pk_un (by omega), pk_us]
  have a7 : mkF st r 7 = (r >>> ((7 : Int32) &&& 31)) &&& 1 := by unfold mkF; rw [pk_us]
  refine ⟨fun j => ?_, by rw [a5]; exact f5, by rw [a6]; exact isF_and _, by rw [a7]; exact isF_and _, by rw [mkF_at (by omega) (by omega) (by omega)]; exact h.2.2.2.2⟩
  by_cases h5 : j = 5
  · subst h5; rw [a5]; exact isF_B f5
  · by_cases h6 : j = 6
    · subst h6; rw [a6]; exact isF_B (isF_and _)
    · by_cases h7 : j = 7
      · subst h7; rw [a7]; exact isF_B (isF_and _)
      · rw [mkF_at h5 h6 h7]; exact h.1 j
/-! the numbers: sums, differences, shifts of bytes -/
theorem all512 {P : Nat → Prop} (h : ∀ b : Fin 512, P b.val) : ∀ b, b < 512 → P b := fun b hb => h ⟨b, hb⟩
set_option maxRecDepth 100000 in
theorem z_add : ∀ v, v < 512 → nI v >>> ((8 : Int32) &&& 31) = (nI v >>> ((8 : Int32) &&& 31)) &&& 1 := all512 (by decide +kernel)
set_option maxRecDepth 100000 in
theorem z_sub : ∀ v, v < 512 → (if nI v - nI 256 < 0 then (1 : Int32) else 0) = ((nI v - nI 256) >>> ((8 : Int32) &&& 31)) &&& 1 ∧ (((nI v - nI 256) &&& 255) >>> ((7 : Int32) &&& 31)) &&& 1 = ((nI v - nI 256) >>> ((7 : Int32) &&& 31)) &&& 1 ∧ ((nI v - nI 256) &&& 255) &&& 255 = (nI v - nI 256) &&& 255 := all512 (by decide +kernel)
set_option maxRecDepth 100000 in
theorem z_low : ∀ v, v < 256 → (0 : Int32) = (nI v >>> ((8 : Int32) &&& 31)) &&& 1 ∧ nI v &&& 255 = nI v := all256 (by decide +kernel)
set_option maxRecDepth 100000 in
theorem z_shl : ∀ v, v < 256 → ∀ c : Fin 2, ((((nI v <<< ((1 : Int32) &&& 31)) &&& 255) ||| nI c.val) = ((nI v <<< ((1 : Int32) &&& 31)) ||| nI c.val) &&& 255) ∧ (((((nI v <<< ((1 : Int32) &&& 31)) &&& 255) ||| nI c.val) &&& 255 = 0) ↔ (((nI v <<< ((1 : Int32) &&& 31)) ||| nI c.val) &&& 255 = 0)) ∧ nI v >>> ((7 : Int32) &&& 31) = (((nI v <<< ((1 : Int32) &&& 31)) ||| nI c.val) >>> ((8 : Int32) &&& 31)) &&& 1 ∧ ((((nI v <<< ((1 : Int32) &&& 31)) &&& 255) ||| nI c.val) >>> ((7 : Int32) &&& 31)) &&& 1 = (((nI v <<< ((1 : Int32) &&& 31)) ||| nI c.val) >>> ((7 : Int32) &&& 31)) &&& 1 := all256 (by decide +kernel)
set_option maxRecDepth 100000 in
theorem z_shr : ∀ v, v < 256 → ∀ c : Fin 2, (((nI v >>> ((1 : Int32) &&& 31)) ||| (nI c.val <<< ((7 : Int32) &&& 31))) = (((nI v >>> ((1 : Int32) &&& 31)) ||| (nI c.val <<< ((7 : Int32) &&& 31))) ||| ((nI v &&& 1) <<< ((8 : Int32) &&& 31))) &&& 255) ∧ ((((nI v >>> ((1 : Int32) &&& 31)) ||| (nI c.val <<< ((7 : Int32) &&& 31))) &&& 255 = 0) ↔ ((((nI v >>> ((1 : Int32) &&& 31)) ||| (nI c.val <<< ((7 : Int32) &&& 31))) ||| ((nI v &&& 1) <<< ((8 : Int32) &&& 31))) &&& 255 = 0)) ∧ nI v &&& 1 = ((((nI v >>> ((1 : Int32) &&& 31)) ||| (nI c.val <<< ((7 : Int32) &&& 31))) ||| ((nI v &&& 1) <<< ((8 : Int32) &&& 31))) >>> ((8 : Int32) &&& 31)) &&& 1 ∧ (((nI v >>> ((1 : Int32) &&& 31)) ||| (nI c.val <<< ((7 : Int32) &&& 31))) >>> ((7 : Int32) &&& 31)) &&& 1 = ((((nI v >>> ((1 : Int32) &&& 31)) ||| (nI c.val <<< ((7 : Int32) &&& 31))) ||| ((nI v &&& 1) <<< ((8 : Int32) &&& 31))) >>> ((7 : Int32) &&& 31)) &&& 1 := all256 (by decide +kernel)
set_option maxRecDepth 100000 in
theorem z_shl0 : ∀ v, v < 256 → ((((nI v <<< ((1 : Int32) &&& 31)) &&& 255) ||| 0) = (nI v <<< ((1 : Int32) &&& 31)) &&& 255) ∧ (((((nI v <<< ((1 : Int32) &&& 31)) &&& 255) ||| 0) &&& 255 = 0) ↔ ((nI v <<< ((1 : Int32) &&& 31)) &&& 255 = 0)) ∧ nI v >>> ((7 : Int32) &&& 31) = ((nI v <<< ((1 : Int32) &&& 31)) >>> ((8 : Int32) &&& 31)) &&& 1 ∧ ((((nI v <<< ((1 : Int32) &&& 31)) &&& 255) ||| 0) >>> ((7 : Int32) &&& 31)) &&& 1 = ((nI v <<< ((1 : Int32) &&& 31)) >>> ((7 : Int32) &&& 31)) &&& 1 := all256 (by decide +kernel)
set_option maxRecDepth 100000 in
theorem z_shr0 : ∀ v, v < 256 → (((nI v >>> ((1 : Int32) &&& 31)) ||| ((0 : Int32) <<< ((7 : Int32) &&& 31))) = ((nI v >>> ((1 : Int32) &&& 31)) ||| ((nI v &&& 1) <<< ((8 : Int32) &&& 31))) &&& 255) ∧ ((((nI v >>> ((1 : Int32) &&& 31)) ||| ((0 : Int32) <<< ((7 : Int32) &&& 31))) &&& 255 = 0) ↔ (((nI v >>> ((1 : Int32) &&& 31)) ||| ((nI v &&& 1) <<< ((8 : Int32) &&& 31))) &&& 255 = 0)) ∧ nI v &&& 1 = (((nI v >>> ((1 : Int32) &&& 31)) ||| ((nI v &&& 1) <<< ((8 : Int32) &&& 31))) >>> ((8 : Int32) &&& 31)) &&& 1 ∧ (((nI v >>> ((1 : Int32) &&& 31)) ||| ((0 : Int32) <<< ((7 : Int32) &&& 31))) >>> ((7 : Int32) &&& 31)) &&& 1 = (((nI v >>> ((1 : Int32) &&& 31)) ||| ((nI v &&& 1) <<< ((8 : Int32) &&& 31))) >>> ((7 : Int32) &&& 31)) &&& 1 := all256 (by decide +kernel)
theorem GR.of {f : Bool} {st reg : Nat → Int32} (h : GR true st reg) : GR f st reg := ⟨h.1, fun _ => h.2 rfl⟩
/-- behind an instruction that makes flags -/
theorem alu_ok {f dd : Bool} {st reg : Nat → Int32} (h : GR f st reg) (hs : BI st) (hr : BI reg) {pc y r : Int32} (hpc : isB pc) (hy : isB y) {d : Nat} (hd : d < 4) :
    GR (!dd) (if dd = true then upd (upd st 9 pc) d y else mkF (upd (upd st 9 pc) d y) r) (mkF (upd (upd reg 9 pc) d y) r) ∧ BI (if dd = true then upd (upd st 9 pc) d y else mkF (upd (upd st 9 pc) d y) r) ∧ BI (mkF (upd (upd reg 9 pc) d y) r) := by
  have g := (h.up 9 pc).up d y
  have b1 := (hs.up (i := 9) hpc (by omega)).up (i := d) hy (by omega)
  have b2 := (hr.up (i := 9) hpc (by omega)).up (i := d) hy (by omega)
  cases dd
  · exact ⟨g.mk r, b1.fl_ r, b2.fl_ r⟩
  · exact ⟨g.left r, b1, b2.fl_ r⟩
theorem cmp_ok {f dd : Bool} {st reg : Nat → Int32} (h : GR f st reg) (hs : BI st) (hr : BI reg) {pc r : Int32} (hpc : isB pc) :
    GR (!dd) (if dd = true then upd st 9 pc else mkF (upd st 9 pc) r) (mkF (upd reg 9 pc) r) ∧ BI (if dd = true then upd st 9 pc else mkF (upd st 9 pc) r) ∧ BI (mkF (upd reg 9 pc) r) := by
  have g := h.up 9 pc
  have b1 := hs.up (i := 9) hpc (by omega)
  have b2 := hr.up (i := 9) hpc (by omega)
  cases dd
  · exact ⟨g.mk r, b1.fl_ r, b2.fl_ r⟩
  · exact ⟨g.left r, b1, b2.fl_ r⟩
theorem sub_as {x y : Nat} (hx : x < 256) (hy : y < 256) : nI x - nI y = nI (256 + x - y) - nI 256 := by
  have e : nI (256 + x - y) = nI (256 + x) - nI y := (pk_sub (by omega)).symm
  rw [e, ← nI_add]
  grind
theorem sf_add {R : Nat → Int32} {v d : Nat} (hv : v < 512) (hd : d < 4) : upd (sfF R (nI v) (nI v >>> ((8 : Int32) &&& 31))) d (nI v &&& 255) = mkF (upd R d (nI v &&& 255)) (nI v) := by
  rw [sf_mk Iff.rfl (z_add v hv) rfl, mkF_up (by omega)]
theorem sf_sub {R : Nat → Int32} {x y : Nat} (hx : x < 256) (hy : y < 256) : sfF R ((nI x - nI y) &&& 255) (if nI x - nI y < 0 then 1 else 0) = mkF R (nI x - nI y) := by
  rw [sub_as hx hy]
  have h := z_sub (256 + x - y) (by omega)
  exact sf_mk (by rw [h.2.2]) h.1 h.2.1
theorem sf_low {R : Nat → Int32} {v : Nat} (hv : v < 256) : sfF R (nI v) 0 = mkF R (nI v) := sf_mk Iff.rfl (z_low v hv).1 rfl
theorem nI_xor2 (a b : Nat) : nI a ^^^ nI b = nI (a ^^^ b) := Int32.toBitVec_inj.mp (by rw [Int32.toBitVec_xor, tbv, tbv, tbv, BitVec.ofNat_xor])

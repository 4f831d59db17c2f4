/-! plain arithmetic for the comparison of the two -/
theorem pIn_n {β : Type} {n N : Nat} {k : Option β} (h : n < N) (hN : N < 2 ^ 31) : pIn (nI n) N k = k := by
  unfold pIn
  exact if_neg (nI_in h hN)
theorem pIn_l {β : Type} {x : Int32} {N : Nat} {k : Option β} (h : ¬ (x < 0 ∨ N ≤ x.toNatClampNeg)) : pIn x N k = k := if_neg h
theorem pB_s {α β : Type} {a : α} {k : α → Option β} : pB (some a) k = k a := rfl
theorem pB_e {α β : Type} {o : Option α} {a : α} {k : α → Option β} (h : o = some a) : pB o k = k a := by rw [h]; rfl
theorem pLet_e {α β : Type} (v : α) (k : α → β) : pLet v k = k v := (Eq.refl (pLet v k)).trans (Eq.refl (k v))
theorem pB_e2 {α β : Type} (a : α) (k : α → Option β) : pB (some a) k = k a := (Eq.refl (pB (some a) k)).trans (Eq.refl (k a))
theorem cl_n {n : Nat} (h : n < 2 ^ 31) : (nI n).toNatClampNeg = n := nI_clamp h
theorem and255 {n : Nat} (h : n < 2 ^ 32) : nI n &&& 255 = nI (n % 256) := pk_andN h 8 rfl
theorem and15 {n : Nat} (h : n < 2 ^ 32) : nI n &&& 15 = nI (n % 16) := pk_andN h 4 rfl
theorem tbv (n : Nat) : (nI n).toBitVec = BitVec.ofNat 32 n := rfl
theorem sub255 {a b : Nat} (ha : a < 2 ^ 31) (hb : b < 2 ^ 20) : (nI a - nI b) &&& 255 = nI ((a + 255 * b) % 256) := by
  rw [pk_and _ 8 rfl]
  congr 1
  rw [Int32.toBitVec_sub, BitVec.toNat_sub, pk_tn (by omega), pk_tn (by omega)]
  omega
theorem addsub255 {a b i : Nat} (ha : a < 2 ^ 20) (hb : b < 2 ^ 20) (hi : i < 2 ^ 20) : ((nI a - nI b) + nI i) &&& 255 = nI ((a + 255 * b + i) % 256) := by
  rw [pk_and _ 8 rfl]
  congr 1
  rw [Int32.toBitVec_add, Int32.toBitVec_sub, BitVec.toNat_add, BitVec.toNat_sub, pk_tn (by omega), pk_tn (by omega), pk_tn (by omega)]
  omega
theorem add255 {a b : Nat} (ha : a < 2 ^ 20) (hb : b < 2 ^ 20) : (nI a + nI b) &&& 255 = nI ((a + b) % 256) := by
  rw [nI_add, and255 (by omega)]
theorem div32 {n : Nat} (h : n < 2 ^ 31) : nI n / 32 = nI (n / 32) := by
  rw [show (32 : Int32) = nI 32 from rfl, pk_div h (by omega) (by omega)]
theorem nI_inj {a b : Nat} (ha : a < 2 ^ 31) (hb : b < 2 ^ 31) (h : nI a = nI b) : a = b := (nI_eq ha hb).mp h
/-- a byte -/
def isB (x : Int32) : Prop := ∃ n : Nat, n < 256 ∧ x = nI n
theorem isB_and (x : Int32) : isB (x &&& 255) := ⟨_, Nat.mod_lt _ (by decide), pk_and x 8 rfl⟩
theorem isB_lit {n : Nat} (h : n < 256) : isB (nI n) := ⟨n, h, rfl⟩
/-- the tables of the two, by the instruction's first byte -/
def kC (b : Nat) : Nat := (fX1_kindOf (nI b)).toNatClampNeg
def kM (b : Nat) : Nat := (fX5_kindOf (nI b)).toNatClampNeg
theorem all256 {P : Nat → Prop} (h : ∀ b : Fin 256, P b.val) : ∀ b, b < 256 → P b := fun b hb => h ⟨b, hb⟩
set_option maxRecDepth 100000 in
theorem kC_eq : ∀ b, b < 256 → fX1_kindOf (nI b) = nI (kC b) ∧ kC b < 30 := all256 (by decide +kernel)
set_option maxRecDepth 100000 in
theorem kM_eq : ∀ b, b < 256 → fX5_kindOf (nI b) = nI (kM b) ∧ kM b < 29 := all256 (by decide +kernel)

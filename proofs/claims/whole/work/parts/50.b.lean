theorem nI_or (a b : Nat) : nI a ||| nI b = nI (a ||| b) := Int32.toBitVec_inj.mp (by rw [Int32.toBitVec_or, tbv, tbv, tbv, BitVec.ofNat_or])
theorem nI_and2 (a b : Nat) : nI a &&& nI b = nI (a &&& b) := Int32.toBitVec_inj.mp (by rw [Int32.toBitVec_and, tbv, tbv, tbv, BitVec.ofNat_and])
theorem or_add {k p a b : Nat} (hp : 2 ^ k = p) (hb : b < p) : (p * a) ||| b = p * a + b := by
  subst hp
  exact (Nat.two_pow_add_eq_or_of_lt hb a).symm
theorem and20 {r : Nat} (h : r < 2 ^ 20) : r &&& 2 ^ 20 = 0 := by
  refine Nat.eq_of_testBit_eq fun i => ?_
  rw [Nat.testBit_and, Nat.testBit_two_pow, Nat.zero_testBit]
  by_cases e : 20 = i
  · subst e
    rw [Nat.testBit_lt_two_pow h]; rfl
  · simp [e]
theorem and20' {r : Nat} (h : r < 2 ^ 20) : (2 ^ 20 + r) &&& 2 ^ 20 = 2 ^ 20 := by
  refine Nat.eq_of_testBit_eq fun i => ?_
  rw [Nat.testBit_and, Nat.testBit_two_pow]
  by_cases e : 20 = i
  · subst e
    rw [Nat.testBit_two_pow_add_eq, Nat.testBit_lt_two_pow h]; rfl
  · simp [e]
/-- the host's word of an instruction: its first byte, its second, whether its flags are dead -/
def wd (b n : Nat) (dd : Bool) : Nat := kC b * 4096 + (b % 16) * 256 + n + (if dd then 1048576 else 0)
theorem wd_lt {b n : Nat} {dd : Bool} (hb : b < 256) (hn : n < 256) : wd b n dd < 2 ^ 21 ∧ kC b * 4096 + (b % 16) * 256 + n < 2 ^ 17 := by
  have h := (kC_eq b hb).2
  unfold wd
  cases dd <;> simp <;> omega
theorem w_kind {b n : Nat} {dd : Bool} (hb : b < 256) (hn : n < 256) : fX1_kind (nI (wd b n dd)) = nI (kC b) := by
  have h := wd_lt (dd := dd) hb hn
  have hk := (kC_eq b hb).2
  unfold fX1_kind
  rw [pk_shrN (by omega) _ 12 rfl, pk_andN (by omega) 5 rfl]
  congr 1
  unfold wd at *
  cases dd <;> simp at * <;> omega
theorem w_w {b n : Nat} {dd : Bool} (hb : b < 256) (hn : n < 256) : fX1_w (nI (wd b n dd)) = nI (b % 16) := by
  have h := wd_lt (dd := dd) hb hn
  unfold fX1_w
  rw [pk_shrN (by omega) _ 8 rfl, pk_andN (by omega) 4 rfl]
  congr 1
  unfold wd at *
  cases dd <;> simp at * <;> omega
theorem w_d {b n : Nat} {dd : Bool} (hb : b < 256) (hn : n < 256) : fX1_d (nI (wd b n dd)) = nI (b / 4 % 4) := by
  have h := wd_lt (dd := dd) hb hn
  unfold fX1_d
  rw [pk_shrN (by omega) _ 10 rfl, pk_andN (by omega) 2 rfl]
  congr 1
  unfold wd at *
  cases dd <;> simp at * <;> omega
theorem w_s {b n : Nat} {dd : Bool} (hb : b < 256) (hn : n < 256) : fX1_s (nI (wd b n dd)) = nI (b % 4) := by
  have h := wd_lt (dd := dd) hb hn
  unfold fX1_s
  rw [pk_shrN (by omega) _ 8 rfl, pk_andN (by omega) 2 rfl]
  congr 1
  unfold wd at *
  cases dd <;> simp at * <;> omega
theorem w_n {b n : Nat} {dd : Bool} (hb : b < 256) (hn : n < 256) : fX1_n (nI (wd b n dd)) = nI n := by
  have h := wd_lt (dd := dd) hb hn
  unfold fX1_n
  rw [and255 (by omega)]
  congr 1
  unfold wd at *
  cases dd <;> simp at * <;> omega
theorem w_dead {b n : Nat} {dd : Bool} (hb : b < 256) (hn : n < 256) : fX1_isDead (nI (wd b n dd)) = if dd then 1 else 0 := by
  have h := wd_lt (dd := dd) hb hn
  unfold fX1_isDead
  rw [show (1048576 : Int32) = nI (2 ^ 20) from rfl, nI_and2]
  unfold wd
  cases dd
  · simp only [Bool.false_eq_true, if_false, Nat.add_zero]
    rw [and20 (by omega)]
    rfl
  · simp only [if_true]
    rw [show kC b * 4096 + b % 16 * 256 + n + 1048576 = 2 ^ 20 + (kC b * 4096 + b % 16 * 256 + n) by omega, and20' (by omega)]
    rfl
theorem w_asDead {b n : Nat} (hb : b < 256) (hn : n < 256) : fX1_asDead (nI (wd b n false)) = nI (wd b n true) := by
  have h := wd_lt (dd := false) hb hn
  unfold fX1_asDead
  rw [show (1048576 : Int32) = nI (2 ^ 20 * 1) from rfl, nI_or, Nat.or_comm, or_add (k := 20) rfl (by unfold wd at *; simp at *; omega)]
  congr 1
  unfold wd
  simp
  omega
theorem w_decode {f : Nat → Int32} {p b n : Nat} (hp : p < 256) (hb : b < 256) (hn : n < 256) (e1 : f p = nI b) (e2 : f ((p + 1) % 256) = nI n) : fX1_decode f (nI p) = some (nI (wd b n false)) := by
  have hk := kC_eq b hb
  unfold fX1_decode
  rw [and255 (by omega), Nat.mod_eq_of_lt hp, pIn_n hp (by omega)]
  simp only [pLet]
  rw [cl_n (by omega), e1, show nI p + 1 = nI (p + 1) from nI_1 p, and255 (by omega), pIn_n (Nat.mod_lt _ (by omega)) (by omega), cl_n (by omega), e2, hk.1, and15 (by omega)]
  rw [pk_shlN _ 12 rfl (by omega), pk_shlN _ 8 rfl (by omega), nI_or, nI_or]
  congr 2
  rw [show kC b * 2 ^ 12 = 2 ^ 12 * kC b by omega, or_add (k := 12) (p := 4096) rfl (by omega), show 4096 * kC b + b % 16 * 2 ^ 8 = 2 ^ 8 * (16 * kC b + b % 16) by omega, or_add (k := 8) (p := 256) rfl hn]
  unfold wd
  simp
  omega

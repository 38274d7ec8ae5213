/-! numbers: the fields of a long -/
theorem b_mask (n w k : Nat) : n &&& (2 ^ w - 1) * 2 ^ k = (n / 2 ^ k % 2 ^ w) * 2 ^ k := by
  apply Nat.eq_of_testBit_eq
  intro i
  rw [Nat.testBit_and, Nat.testBit_mul_two_pow, Nat.testBit_mul_two_pow, Nat.testBit_two_pow_sub_one, Nat.testBit_mod_two_pow, Nat.testBit_div_two_pow]
  by_cases h : k ≤ i
  · rw [show i - k + k = i by omega, Bool.and_comm, Bool.and_assoc]
  · simp [h]
def b_E (n : Nat) : Nat := n / 2 ^ 52 % 2048
def b_T (n : Nat) : Nat := n % 2 ^ 52
def b_s (n : Nat) : Bool := n / 2 ^ 63 % 2 == 1
theorem b_dec (n : Nat) : FP.Core.decode FP.Core.b64 n = if b_E n = 2047 then (if b_T n = 0 then .inf (b_s n) else .nan) else if b_E n = 0 then .fin (b_s n) (b_T n) (-1074) else .fin (b_s n) (2 ^ 52 + b_T n) (-1074 + ((b_E n : Int) - 1)) := by
  have e1 : FP.Core.fieldE FP.Core.b64 n = b_E n := rfl
  have e2 : FP.Core.fieldT FP.Core.b64 n = b_T n := rfl
  have e3 : FP.Core.fieldS FP.Core.b64 n = b_s n := by
    show (n / 2 ^ 52 / 2048 % 2 == 1) = (n / 2 ^ 63 % 2 == 1)
    rw [Nat.div_div_eq_div_mul]
  unfold FP.Core.decode
  rw [e1, e2, e3, b64_qmin, b64_tails]
  rfl
theorem b_parts {n : Nat} (hn : n < 2 ^ 64) : n = sg (b_s n) + b_E n * 2 ^ 52 + b_T n := by
  unfold sg b_s b_E b_T
  have : n / 2 ^ 63 % 2 = 0 ∨ n / 2 ^ 63 % 2 = 1 := by omega
  rcases this with q | q
  · rw [q]
    show n = 0 * 2 ^ 63 + _ + _
    omega
  · rw [q]
    show n = 1 * 2 ^ 63 + _ + _
    omega
theorem u_E {n : Nat} (hn : n < 2 ^ 64) : lN n &&& 9218868437227405312 = lN (b_E n * 2 ^ 52) := by
  rw [show (9218868437227405312 : Int64) = lN ((2 ^ 11 - 1) * 2 ^ 52) from rfl, u_and hn (by decide), b_mask]
  rfl
theorem u_Tl {n : Nat} (hn : n < 2 ^ 64) : lN n &&& 4503599627370495 = lN (b_T n) := by
  rw [show (4503599627370495 : Int64) = lN (2 ^ 52 - 1) from rfl, u_and hn (by decide), Nat.and_two_pow_sub_one_eq_mod]
  rfl
theorem u_S {n : Nat} (hn : n < 2 ^ 64) : lN n &&& (-9223372036854775808) = lN (sg (b_s n)) := by
  rw [show (-9223372036854775808 : Int64) = lN ((2 ^ 1 - 1) * 2 ^ 63) from rfl, u_and hn (by decide), b_mask]
  unfold sg b_s
  have : n / 2 ^ 63 % 2 ^ 1 = 0 ∨ n / 2 ^ 63 % 2 ^ 1 = 1 := by omega
  rcases this with q | q
  · rw [q]
    rfl
  · rw [q]
    rfl
theorem u_A {n : Nat} (hn : n < 2 ^ 64) : lN n &&& 9223372036854775807 = lN (b_E n * 2 ^ 52 + b_T n) := by
  rw [show (9223372036854775807 : Int64) = lN (2 ^ 63 - 1) from rfl, u_and hn (by decide), Nat.and_two_pow_sub_one_eq_mod]
  unfold b_E b_T
  congr 1
  omega
theorem b_E_lt (n : Nat) : b_E n < 2048 := Nat.mod_lt _ (by decide)
theorem b_T_lt (n : Nat) : b_T n < 2 ^ 52 := Nat.mod_lt _ (by decide)
def b_nan (n : Nat) : Prop := b_E n = 2047 ∧ b_T n ≠ 0
theorem b_nan_iff (n : Nat) : 9218868437227405312 < b_E n * 2 ^ 52 + b_T n ↔ b_nan n := by
  have h1 := b_E_lt n
  have h2 := b_T_lt n
  unfold b_nan
  omega
theorem k_nan (h : mz_H) {n : Nat} (hn : n < 2 ^ 64) : (b_nan n ∧ fn_X3_isNotANumber h (lN n) = some (1, h, 0, 0) ∧ fn_X12_isNumber h (lN n) = some (0, h, 0, 0)) ∨ (¬ b_nan n ∧ fn_X3_isNotANumber h (lN n) = some (0, h, 0, 0) ∧ fn_X12_isNumber h (lN n) = some (1, h, 0, 0)) := by
  have h1 := b_E_lt n
  have h2 := b_T_lt n
  unfold fn_X3_isNotANumber fn_X12_isNumber
  rw [u_A hn, show (9218868437227405312 : Int64) = lN 9218868437227405312 from rfl]
  have c1 := u_le (a := b_E n * 2 ^ 52 + b_T n) (b := 9218868437227405312) (by omega) (by omega)
  have c2 := u_gt (a := b_E n * 2 ^ 52 + b_T n) (b := 9218868437227405312) (by omega) (by omega)
  have c3 := b_nan_iff n
  by_cases q : b_nan n
  · refine Or.inl ⟨q, ?_, ?_⟩
    · rw [if_neg (fun e => absurd (c1.mp e) (by have := c3.mpr q; omega)), z_1, zc_t, zr_e]
    · rw [if_pos (c2.mpr (c3.mpr q)), z_0, zc_t, zr_e]
  · refine Or.inr ⟨q, ?_, ?_⟩
    · rw [if_pos (c1.mpr (Nat.le_of_not_lt (fun z => q (c3.mp z)))), z_0, zc_t, zr_e]
    · rw [if_neg (fun e => q (c3.mp (c2.mp e))), z_1, zc_t, zr_e]
theorem k_finite (h : mz_H) {n : Nat} (hn : n < 2 ^ 64) : fn_X3_isFinite h (lN n) = some (if b_E n = 2047 then 0 else 1, h, 0, 0) := by
  have h1 := b_E_lt n
  unfold fn_X3_isFinite
  rw [u_E hn, show (9218868437227405312 : Int64) = lN (2047 * 2 ^ 52) from rfl]
  have c := u_cmp (a := b_E n * 2 ^ 52) (b := 2047 * 2 ^ 52) (by omega) (by omega)
  by_cases q : b_E n = 2047
  · rw [if_pos (c.mpr (by rw [q])), if_pos q, z_0, zc_t, zr_e]
  · rw [if_neg (fun e => absurd (c.mp e) (by omega)), if_neg q, z_1, zc_t, zr_e]
def b_D (n : Nat) : Nat := if b_E n = 0 then b_T n else 2 ^ 52 + b_T n
def b_p (n : Nat) : Int := -1074 + (max (b_E n : Int) 1 - 1)
theorem b_D_lt (n : Nat) : b_D n < 2 ^ 53 := by
  have := b_T_lt n
  unfold b_D
  split <;> omega
theorem k_digits (h : mz_H) {n : Nat} (hn : n < 2 ^ 64) : fn_X3_digitsOf h (lN n) = some (lN (b_D n), h, 0, 0) := by
  have h1 := b_E_lt n
  have h2 := b_T_lt n
  unfold fn_X3_digitsOf b_D
  rw [u_E hn, u_Tl hn, zo_s]
  have c := u_cmp0 (a := b_E n * 2 ^ 52) (by omega)
  by_cases q : b_E n = 0
  · rw [if_pos (c.mpr (by omega)), if_pos q, zr_e]
  · rw [if_neg (fun e => absurd (c.mp e) (by omega)), if_neg q, zr_e, show (4503599627370496 : Int64) = lN (2 ^ 52) from rfl, u_or (by omega) (by decide)]
    have := Nat.two_pow_add_eq_or_of_lt (i := 52) (b := b_T n) h2 1
    rw [Nat.or_comm, ← Nat.mul_one (2 ^ 52), this]
theorem k_power (h : mz_H) {n : Nat} (hn : n < 2 ^ 64) : fn_X3_powerOf h (lN n) = some (zI (b_p n), h, 0, 0) := by
  have h1 := b_E_lt n
  unfold fn_X3_powerOf b_p
  rw [u_E hn, show (52 : Int32) = nI 52 from rfl, u_shr (by omega) (by omega), zo_s, zr_e, Nat.mul_div_cancel _ (by decide), lN_i, ← zI_n]
  have e : (if zI (b_E n : Int) < 1 then 1 else zI (b_E n : Int)) = zI (max (b_E n : Int) 1) := by
    have := zI_max (a := (b_E n : Int)) (b := 1) (by omega) (by omega) (by omega) (by omega)
    exact this
  rw [e, show (1 : Int32) = zI 1 from rfl, show (-1074 : Int32) = zI (-1074) from rfl, zI_sub, zI_add, Int.add_comm]
theorem b_dec_fin {n : Nat} (h : b_E n ≠ 2047) : FP.Core.decode FP.Core.b64 n = .fin (b_s n) (b_D n) (b_p n) := by
  rw [b_dec, if_neg h]
  unfold b_D b_p
  by_cases q : b_E n = 0
  · rw [if_pos q, if_pos q, q]
    rfl
  · rw [if_neg q, if_neg q]
    congr 1
    omega

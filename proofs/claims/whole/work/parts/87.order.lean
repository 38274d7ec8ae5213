/-! numbers: the order -/
theorem cmp_lt (a b : Int) : compare a b = if a < b then .lt else if a = b then .eq else .gt := rfl
theorem cv_lt (a b : Int) (op : CmpOp) : Op.cmpValue (some (compare a b)) op < 0 ↔ a < b := by
  rw [cmp_lt]
  split
  · exact ⟨fun _ => by assumption, fun _ => by cases op <;> decide⟩
  · split
    · exact ⟨fun z => absurd z (by cases op <;> decide), fun z => by omega⟩
    · exact ⟨fun z => absurd z (by cases op <;> decide), fun z => by omega⟩
theorem cv_eq (a b : Int) (op : CmpOp) : Op.cmpValue (some (compare a b)) op = 0 ↔ a = b := by
  rw [cmp_lt]
  split
  · exact ⟨fun z => absurd z (by cases op <;> decide), fun z => by omega⟩
  · split
    · exact ⟨fun _ => by assumption, fun _ => by cases op <;> rfl⟩
    · exact ⟨fun z => absurd z (by cases op <;> decide), fun z => by omega⟩
theorem cv_ge (a b : Int) (op : CmpOp) : 0 ≤ Op.cmpValue (some (compare a b)) op ↔ b ≤ a := by
  rw [← Int32.not_lt, cv_lt]
  omega
theorem cv_gt (a b : Int) (op : CmpOp) : 0 < Op.cmpValue (some (compare a b)) op ↔ b < a := by
  rw [cmp_lt]
  split
  · exact ⟨fun z => absurd z (by cases op <;> decide), fun z => by omega⟩
  · split
    · exact ⟨fun z => absurd z (by cases op <;> decide), fun z => by omega⟩
    · exact ⟨fun _ => by omega, fun _ => by cases op <;> decide⟩
theorem cv_le (a b : Int) (op : CmpOp) : Op.cmpValue (some (compare a b)) op ≤ 0 ↔ a ≤ b := by
  rw [← Int32.not_lt, cv_gt]
  omega
/-- a finite number in units of the least one -/
def b_V (n : Nat) : Int := FP.Core.signed (b_s n) (b_D n * 2 ^ (b_p n + 1074).toNat)
theorem sg_mul (s : Bool) (a k : Nat) : FP.Core.signed s (a * k) = FP.Core.signed s a * (k : Int) := by
  unfold FP.Core.signed
  cases s
  · simp
  · simp [Int.neg_mul]
theorem cmp_scale (a b : Int) {k : Nat} (hk : 0 < k) : compare (a * (k : Int)) (b * (k : Int)) = compare a b := by
  have hk' : (0 : Int) < (k : Int) := by omega
  rw [cmp_lt, cmp_lt]
  have e1 : a * (k : Int) < b * (k : Int) ↔ a < b := Int.mul_lt_mul_right hk'
  have e2 : a * (k : Int) = b * (k : Int) ↔ a = b := Int.mul_eq_mul_right_iff (by omega)
  simp only [e1, e2]
theorem k_dcmp {n1 n2 : Nat} (h1 : n1 < 2 ^ 64) (h2 : n2 < 2 ^ 64) (f1 : b_E n1 ≠ 2047) (f2 : b_E n2 ≠ 2047) : FP.dcmp (UInt64.ofNat n1) (UInt64.ofNat n2) = some (compare (b_V n1) (b_V n2)) := by
  show FP.Core.order (FP.Core.decode FP.Core.b64 (UInt64.ofNat _).toNat) (FP.Core.decode FP.Core.b64 (UInt64.ofNat _).toNat) = _
  rw [UInt64.toNat_ofNat', UInt64.toNat_ofNat', Nat.mod_eq_of_lt h1, Nat.mod_eq_of_lt h2, b_dec_fin f1, b_dec_fin f2]
  show some (compare (FP.Core.signed (b_s n1) (b_D n1 * 2 ^ (b_p n1 - min (b_p n1) (b_p n2)).toNat)) (FP.Core.signed (b_s n2) (b_D n2 * 2 ^ (b_p n2 - min (b_p n1) (b_p n2)).toNat))) = _
  have hb1 : -1074 ≤ b_p n1 := by
    unfold b_p
    omega
  have hb2 : -1074 ≤ b_p n2 := by
    unfold b_p
    omega
  unfold b_V
  congr 1
  obtain ⟨k, hk⟩ : ∃ k : Nat, (k : Int) = min (b_p n1) (b_p n2) + 1074 := ⟨(min (b_p n1) (b_p n2) + 1074).toNat, by omega⟩
  rw [show (b_p n1 + 1074).toNat = (b_p n1 - min (b_p n1) (b_p n2)).toNat + k by omega, show (b_p n2 + 1074).toNat = (b_p n2 - min (b_p n1) (b_p n2)).toNat + k by omega, Nat.pow_add, Nat.pow_add, ← Nat.mul_assoc, ← Nat.mul_assoc, sg_mul _ _ (2 ^ k), sg_mul _ _ (2 ^ k), cmp_scale _ _ (Nat.two_pow_pos k)]
def b_M (n : Nat) : Nat := b_D n * 2 ^ (b_p n + 1074).toNat
theorem b_V_M (n : Nat) : b_V n = FP.Core.signed (b_s n) (b_M n) := rfl
theorem b_M_lt {a b : Nat} (h : b_A a < b_A b) : b_M a < b_M b := by
  have t1 := b_T_lt a
  have t2 := b_T_lt b
  have l1 := b_D_lt a
  unfold b_A at h
  unfold b_M
  have e1 : (b_p a + 1074).toNat = max (b_E a) 1 - 1 := by
    unfold b_p
    omega
  have e2 : (b_p b + 1074).toNat = max (b_E b) 1 - 1 := by
    unfold b_p
    omega
  rw [e1, e2]
  by_cases g : b_E a = b_E b
  · rw [g]
    refine Nat.mul_lt_mul_of_pos_right ?_ (Nat.two_pow_pos _)
    unfold b_D
    split <;> split <;> omega
  · have g2 : b_E a < b_E b := by omega
    have l2 : 2 ^ 52 ≤ b_D b := by
      unfold b_D
      rw [if_neg (by omega)]
      omega
    refine Nat.lt_of_lt_of_le ?_ (Nat.mul_le_mul_right _ l2)
    by_cases z : b_E a = 0
    · have l3 : b_D a < 2 ^ 52 := by
        unfold b_D
        rw [if_pos z]
        exact t1
      rw [z, show max 0 1 - 1 = 0 from rfl, Nat.pow_zero, Nat.mul_one]
      have := Nat.mul_le_mul_left (2 ^ 52) (Nat.two_pow_pos (max (b_E b) 1 - 1))
      omega
    · refine Nat.lt_of_lt_of_le (Nat.mul_lt_mul_of_pos_right l1 (Nat.two_pow_pos _)) ?_
      rw [← Nat.pow_add, ← Nat.pow_add]
      exact Nat.pow_le_pow_right (by omega) (by omega)
theorem b_M_iff (a b : Nat) : b_M a < b_M b ↔ b_A a < b_A b := by
  refine ⟨fun h => ?_, b_M_lt⟩
  rcases Nat.lt_trichotomy (b_A a) (b_A b) with z | z | z
  · exact z
  · exfalso
    have t1 := b_T_lt a
    have t2 := b_T_lt b
    unfold b_A at z
    have hE : b_E a = b_E b := by omega
    have hT : b_T a = b_T b := by omega
    unfold b_M b_D b_p at h
    rw [hE, hT] at h
    omega
  · have := b_M_lt z
    omega
theorem xor_top {A m : Nat} (hA : A < 2 ^ m) : (2 ^ m * 1 + A) ^^^ (2 ^ m - 1) = 2 ^ m * 1 + (2 ^ m - (A + 1)) := by
  apply Nat.eq_of_testBit_eq
  intro j
  have hp := Nat.two_pow_pos m
  rw [Nat.testBit_xor, Nat.testBit_two_pow_sub_one, Nat.testBit_two_pow_mul_add _ hA, Nat.testBit_two_pow_mul_add _ (by omega), Nat.testBit_two_pow_sub_succ hA]
  by_cases w : j < m
  · rw [if_pos w, if_pos w, decide_eq_true w]
    cases A.testBit j <;> rfl
  · rw [if_neg w, if_neg w, decide_eq_false w]
    cases Nat.testBit 1 (j - m) <;> rfl
def b_O (n : Nat) : Int := if b_s n then -1 - (b_A n : Int) else (b_A n : Int)
theorem k_inOrder (h : mz_H) {n : Nat} (hn : n < 2 ^ 64) : ∃ x, fn_X3_inOrder h (lN n) = some (x, h, 0, 0) ∧ x.toInt = b_O n := by
  have e := b_parts hn
  have t1 := b_T_lt n
  have t2 := b_E_lt n
  have hs := b_s_iff hn
  unfold fn_X3_inOrder b_O b_A
  by_cases q : n < 2 ^ 63
  · have hs' : b_s n = false := by
      cases z : b_s n
      · rfl
      · have := hs.mp z
        omega
    rw [hs'] at e
    refine ⟨lN n, ?_, ?_⟩
    · rw [if_pos ((u_ge0 hn).mpr q), zr_e]
    · rw [u_toInt hn, if_pos q, hs']
      unfold sg at e
      simp at e ⊢
      omega
  · have hs' : b_s n = true := hs.mpr (by omega)
    rw [hs'] at e
    have e' : n = 2 ^ 63 * 1 + (b_E n * 2 ^ 52 + b_T n) := by
      unfold sg at e
      simp at e ⊢
      omega
    have ex : n ^^^ (2 ^ 63 - 1) = 2 ^ 63 * 1 + (2 ^ 63 - (b_E n * 2 ^ 52 + b_T n + 1)) := by
      have hA : b_E n * 2 ^ 52 + b_T n < 2 ^ 63 := by omega
      exact (congrArg (fun x => x ^^^ (2 ^ 63 - 1)) e').trans (xor_top hA)
    refine ⟨lN (n ^^^ (2 ^ 63 - 1)), ?_, ?_⟩
    · rw [if_neg (fun z => q ((u_ge0 hn).mp z)), zr_e, show (9223372036854775807 : Int64) = lN (2 ^ 63 - 1) from rfl, u_xor hn (by decide)]
    · rw [u_toInt (Nat.xor_lt_two_pow hn (by decide)), ex, hs', if_neg (by omega), if_pos rfl]
      omega
theorem k_isLess (h : mz_H) {a b : Nat} (ha : a < 2 ^ 64) (hb : b < 2 ^ 64) : fn_X3_isLess h (lN a) (lN b) = some (if b_O a < b_O b then 1 else 0, h, 0, 0) := by
  obtain ⟨x, x1, x2⟩ := k_inOrder h ha
  obtain ⟨y, y1, y2⟩ := k_inOrder h hb
  unfold fn_X3_isLess
  rw [x1, zl_0, y1, zl_0]
  have c : 0 ≤ lg_cmp x y ↔ b_O b ≤ b_O a := by
    rw [lg_cmp_ge, Int64.le_iff_toInt_le, x2, y2]
  by_cases g : b_O a < b_O b
  · rw [if_neg (fun z => absurd (c.mp z) (by omega)), if_pos g, z_1, zc_t, zr_e]
  · rw [if_pos (c.mpr (by omega)), if_neg g, z_0, zc_t, zr_e]

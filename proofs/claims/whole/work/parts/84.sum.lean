/-! numbers: the sum -/
theorem u_xor {a b : Nat} (ha : a < 2 ^ 64) (hb : b < 2 ^ 64) : lN a ^^^ lN b = lN (a ^^^ b) := by
  apply u_i
  show (lN a).toUInt64 ^^^ (lN b).toUInt64 = _
  rw [u_nat, u_nat, u_nat]
  apply UInt64.toNat_inj.mp
  rw [UInt64.toNat_xor, UInt64.toNat_ofNat', UInt64.toNat_ofNat', UInt64.toNat_ofNat', Nat.mod_eq_of_lt ha, Nat.mod_eq_of_lt hb, Nat.mod_eq_of_lt (Nat.xor_lt_two_pow ha hb)]
theorem b_s_bit (n : Nat) : b_s n = n.testBit 63 := by
  unfold b_s
  rw [Nat.testBit_eq_decide_div_mod_eq]
  by_cases q : n / 2 ^ 63 % 2 = 1
  · rw [q]
    rfl
  · rw [decide_eq_false q]
    exact beq_false_of_ne q
theorem b_s_iff {n : Nat} (hn : n < 2 ^ 64) : b_s n = true ↔ 2 ^ 63 ≤ n := by
  unfold b_s
  rw [beq_iff_eq]
  omega
theorem u_lt0 {n : Nat} (hn : n < 2 ^ 64) : lg_cmp (lN n) 0 < 0 ↔ b_s n = true := by
  have e := u_ge0 hn
  rw [b_s_iff hn, ← Int32.not_le, e]
  omega
theorem u_xs {a b : Nat} (ha : a < 2 ^ 64) (hb : b < 2 ^ 64) : lg_cmp (lN a ^^^ lN b) 0 < 0 ↔ b_s a ≠ b_s b := by
  rw [u_xor ha hb, u_lt0 (Nat.xor_lt_two_pow ha hb), b_s_bit, b_s_bit, b_s_bit, Nat.testBit_xor]
  cases a.testBit 63 <;> cases b.testBit 63 <;> decide
theorem u_lt {a b : Nat} (ha : a < 2 ^ 63) (hb : b < 2 ^ 63) : lg_cmp (lN a) (lN b) < 0 ↔ a < b := by
  rw [← Int32.not_le, lg_cmp_ge, Int64.le_iff_toInt_le, u_toInt (by omega), u_toInt (by omega), if_pos ha, if_pos hb]
  omega
theorem x_units (s t : Bool) (c d : Nat) {q r : Int} (h : r ≤ q) : FP.Core.sumUnits s c q t d r (min q r) = FP.Core.signed s (c * 2 ^ (q - r).toNat) + FP.Core.signed t d := by
  unfold FP.Core.sumUnits FP.Core.inUnits
  rw [Int.min_eq_right h, Int.sub_self]
  simp
theorem x_same (s : Bool) (c d : Nat) {q r : Int} (h : r ≤ q) : FP.Core.exactSum (.fin s c q) (.fin s d r) = .fin s (c * 2 ^ (q - r).toNat + d) r := by
  show FP.Core.Datum.fin (FP.Core.sumSign s s (FP.Core.sumUnits s c q s d r (min q r))) (FP.Core.sumUnits s c q s d r (min q r)).natAbs (min q r) = _
  rw [x_units s s c d h, Int.min_eq_right h]
  unfold FP.Core.sumSign FP.Core.signed
  generalize c * 2 ^ (q - r).toNat = X
  cases s
  · simp only [Bool.false_eq_true, if_false]
    congr 1
    · split
      · rfl
      · exact decide_eq_false (by omega)
  · simp only [if_true]
    congr 1
    · split
      · rfl
      · exact decide_eq_true (by omega)
    · omega
theorem x_diff (s : Bool) (c d : Nat) {q r : Int} (h : r ≤ q) (hd : d ≤ c * 2 ^ (q - r).toNat) : FP.Core.exactSum (.fin s c q) (.fin (!s) d r) = if c * 2 ^ (q - r).toNat = d then .fin false 0 r else .fin s (c * 2 ^ (q - r).toNat - d) r := by
  show FP.Core.Datum.fin (FP.Core.sumSign s (!s) (FP.Core.sumUnits s c q (!s) d r (min q r))) (FP.Core.sumUnits s c q (!s) d r (min q r)).natAbs (min q r) = _
  rw [x_units s (!s) c d h, Int.min_eq_right h]
  unfold FP.Core.sumSign FP.Core.signed
  generalize c * 2 ^ (q - r).toNat = X at hd ⊢
  by_cases g : X = d
  · rw [if_pos g, g]
    cases s
    · simp only [Bool.false_eq_true, if_false, Bool.not_false, if_true, Int.add_right_neg]
      rfl
    · simp only [Bool.false_eq_true, if_false, Bool.not_true, if_true, Int.add_left_neg]
      rfl
  · rw [if_neg g]
    cases s
    · simp only [Bool.false_eq_true, if_false, Bool.not_false, if_true]
      rw [if_neg (by omega), decide_eq_false (by omega)]
      congr 1
      omega
    · simp only [Bool.false_eq_true, if_false, Bool.not_true, if_true]
      rw [if_neg (by omega), decide_eq_true (by omega)]
      congr 1
      omega
theorem x_comm (a b : FP.Core.Datum) : FP.Core.exactSum a b = FP.Core.exactSum b a := by
  cases a with
  | nan => cases b <;> rfl
  | inf s =>
    cases b with
    | nan => rfl
    | fin => rfl
    | inf t => cases s <;> cases t <;> rfl
  | fin s c q =>
    cases b with
    | nan => rfl
    | inf => rfl
    | fin t d r =>
      unfold FP.Core.exactSum FP.Core.sumSign FP.Core.sumUnits
      simp only [Int.min_comm r q, Bool.and_comm t s, Int.add_comm (FP.Core.signed t _)]
def b_A (n : Nat) : Nat := b_E n * 2 ^ 52 + b_T n
theorem k_sum43 (h : mz_H) {n1 n2 : Nat} (h1 : n1 < 2 ^ 64) (h2 : n2 < 2 ^ 64) (f1 : b_E n1 ≠ 2047) (hA : b_A n2 ≤ b_A n1) {j0 j2 : Int64} (hx : lg_cmp (j0 ^^^ j2) 0 < 0 ↔ b_s n1 ≠ b_s n2) : fn_X3_sum_b43 h j0 j2 (lN n1) (lN n2) = some (lN (FP.Core.encode FP.Core.b64 (FP.Core.round FP.Core.b64 (FP.Core.exactSum (.fin (b_s n1) (b_D n1) (b_p n1)) (.fin (b_s n2) (b_D n2) (b_p n2))))), h, 0, 0) := by
  unfold b_A at hA
  have t1 := b_T_lt n1
  have t2 := b_T_lt n2
  have e1 := b_E_lt n1
  have e2 := b_E_lt n2
  have D1l := b_D_lt n1
  have D2l := b_D_lt n2
  have hp : b_p n2 ≤ b_p n1 := by
    unfold b_p
    omega
  obtain ⟨d, hd⟩ : ∃ d : Nat, (d : Int) = b_p n1 - b_p n2 := ⟨(b_p n1 - b_p n2).toNat, by omega⟩
  have hb1 : -1074 ≤ b_p n1 ∧ b_p n1 ≤ 2000 := by
    unfold b_p
    omega
  have hb2 : -1074 ≤ b_p n2 ∧ b_p n2 ≤ 2000 := by
    unfold b_p
    omega
  have dpos : 0 < d → 2 ^ 52 ≤ b_D n1 := by
    intro z
    unfold b_p at hd
    unfold b_D
    rw [if_neg (by omega)]
    omega
  have d0 : d = 0 → b_D n2 ≤ b_D n1 := by
    intro z
    unfold b_p at hd
    unfold b_D
    split <;> split <;> omega
  have hle : b_D n2 ≤ b_D n1 * 2 ^ d := by
    rcases Nat.eq_zero_or_pos d with z | z
    · rw [z, Nat.pow_zero]
      have := d0 z
      omega
    · have a1 := dpos z
      have a2 := Nat.pow_le_pow_right (show 0 < 2 by omega) z
      have := Nat.mul_le_mul a1 a2
      omega
  have hy : b_D n2 * 2 ^ 9 ≤ b_D n1 * 2 ^ 9 * 2 ^ d := by
    rw [Nat.mul_right_comm]
    exact Nat.mul_le_mul_right _ hle
  have hbst : b_st (b_D n2 * 2 ^ 9) d ≤ b_D n1 * 2 ^ 9 ∧ (0 < d → b_st (b_D n2 * 2 ^ 9) d < b_D n1 * 2 ^ 9) := by
    rcases Nat.eq_zero_or_pos d with z | z
    · rw [z, b_st_0]
      have := d0 z
      omega
    · have := b_st_le (y := b_D n2 * 2 ^ 9) z
      have := dpos z
      omega
  have len : ∀ X, X * 2 ^ 9 % 2 ^ d ≠ 0 → 10 ≤ d := by
    intro X z
    rcases Nat.lt_or_ge d 10 with w | w
    · rw [show (9 : Nat) = (9 - d) + d by omega, Nat.pow_add, ← Nat.mul_assoc, Nat.mul_mod_left] at z
      exact absurd rfl z
    · exact w
  have h10 : 10 ≤ d → 2 ^ 52 ≤ b_D n1 ∧ b_D n2 * 2 ^ 9 / 2 ^ d ≤ 2 ^ 52 := by
    intro z
    refine ⟨dpos (by omega), ?_⟩
    have := Nat.pow_le_pow_right (show 0 < 2 by omega) z
    have := Nat.div_le_div_left this (show 0 < 2 ^ 10 by omega) (a := b_D n2 * 2 ^ 9)
    omega
  unfold fn_X3_sum_b43
  rw [k_finite h h1, zl_0, if_neg f1, if_neg (show ¬ (1 : Int32) = 0 by decide), k_power h h1, zl_0, k_digits h h1, zl_0, zo_s, k_digits h h2, zl_0, k_power h h2, zl_0, zI_sub, ← hd, zI_n, show (9 : Int32) = nI 9 from rfl, u_shl (by omega), u_shl (by omega), k_shifted h (by omega) (by omega), zl_0]
  have e9 : zI (b_p n1) - nI 9 = zI (b_p n2 - ((9 : Nat) : Int) + (d : Int)) := by
    rw [← zI_n 9, zI_sub]
    congr 1
    omega
  have q1 : -5000 ≤ b_p n2 - ((9 : Nat) : Int) + (d : Int) := by omega
  have q2 : b_p n2 - ((9 : Nat) : Int) + (d : Int) ≤ 5000 := by omega
  have ed : (b_p n1 - b_p n2).toNat = d := by omega
  have fin : ∀ X : Nat, X ≠ 0 ∨ True → b_st (X * 2 ^ 9) d < 2 ^ 64 → (10 ≤ d → 2 ^ 56 ≤ X * 2 ^ 9 / 2 ^ d) → fn_X3_sum_b148 h (zI (b_p n1)) (lN (sg (b_s n1))) (lN (b_st (X * 2 ^ 9) d)) = some (lN (FP.Core.encode FP.Core.b64 (FP.Core.round FP.Core.b64 (.fin (b_s n1) X (b_p n2)))), h, 0, 0) := by
    intro X _ hX hX2
    unfold fn_X3_sum_b148
    rw [show (9 : Int32) = nI 9 from rfl, e9, k_rounded0 h (b_s n1) hX q1 q2, zl_0, zr_e, r_fit_round FP.Core.b64 (by decide) (r_ratio_fit FP.Core.b64 (b_s n1) (by decide) (by decide) _ _), r_sticky FP.Core.b64 (b_s n1) _ (by decide), r_same]
    · rfl
    · intro z
      have z2 := hX2 (len X z)
      show 55 ≤ _
      have z3 := b_len_lt (X * 2 ^ 9 / 2 ^ d)
      have z4 : (2 : Nat) ^ 56 < 2 ^ b_len (X * 2 ^ 9 / 2 ^ d) := by omega
      have := (Nat.pow_lt_pow_iff_right (show 1 < 2 by omega)).mp z4
      omega
  by_cases hs : b_s n1 = b_s n2
  · rw [if_neg (fun z => hx.mp z hs), ← hs, x_same _ _ _ hp, ed]
    unfold fn_X3_sum_b107
    rw [if_neg (show ¬ (1 : Int32) = 0 by decide)]
    unfold fn_X3_sum_b124
    rw [if_neg (show ¬ (1 : Int32) = 0 by decide), u_S h1, lN_add, ← b_st_add (by omega), Nat.mul_right_comm, ← Nat.add_mul]
    have ex : b_st ((b_D n1 * 2 ^ d + b_D n2) * 2 ^ 9) d = b_D n1 * 2 ^ 9 + b_st (b_D n2 * 2 ^ 9) d := by
      rw [← b_st_add (by omega), Nat.mul_right_comm, ← Nat.add_mul]
    apply fin
    · exact Or.inr trivial
    · omega
    · intro z
      have w := (h10 z).1
      rw [Nat.add_mul, Nat.mul_right_comm, Nat.mul_comm _ (2 ^ d), Nat.mul_add_div (Nat.two_pow_pos d)]
      exact Nat.le_trans (show 2 ^ 56 ≤ b_D n1 * 2 ^ 9 by omega) (Nat.le_add_right _ _)
  · have hs2 : b_s n2 = !b_s n1 := by
      revert hs
      cases b_s n1 <;> cases b_s n2 <;> decide
    rw [if_pos (hx.mpr hs), hs2, x_diff _ _ _ hp (by rw [ed]; exact hle), ed]
    unfold fn_X3_sum_b107
    rw [if_pos rfl]
    have cc := u_cmp (a := b_D n1 * 2 ^ 9) (b := b_st (b_D n2 * 2 ^ 9) d) (by omega) (by omega)
    have ceq : b_D n1 * 2 ^ 9 = b_st (b_D n2 * 2 ^ 9) d ↔ b_D n1 * 2 ^ d = b_D n2 := by
      rcases Nat.eq_zero_or_pos d with z | z
      · rw [z, b_st_0, Nat.pow_zero]
        omega
      · have a1 := hbst.2 z
        have a2 := dpos z
        have a3 := Nat.pow_le_pow_right (show 0 < 2 by omega) z
        have := Nat.mul_le_mul a2 a3
        omega
    by_cases g : b_D n1 * 2 ^ d = b_D n2
    · rw [if_pos (cc.mpr (ceq.mpr g)), if_pos g, zr_e]
      rfl
    · rw [if_neg (fun z => g (ceq.mp (cc.mp z))), if_neg g]
      unfold fn_X3_sum_b124
      have ex : b_st ((b_D n1 * 2 ^ d - b_D n2) * 2 ^ 9) d = b_D n1 * 2 ^ 9 - b_st (b_D n2 * 2 ^ 9) d := by
        rw [← b_st_sub (by omega) hy, Nat.mul_right_comm, ← Nat.sub_mul]
      rw [if_pos rfl, u_S h1, lN_sub hbst.1, ← ex]
      apply fin
      · exact Or.inr trivial
      · omega
      · intro z
        have w := h10 z
        have hst : b_st (b_D n2 * 2 ^ 9) d ≤ b_D n2 * 2 ^ 9 / 2 ^ d + 1 := by
          unfold b_st
          split
          · omega
          · rw [or_1]
            omega
        have hst2 : b_st ((b_D n1 * 2 ^ d - b_D n2) * 2 ^ 9) d ≤ (b_D n1 * 2 ^ d - b_D n2) * 2 ^ 9 / 2 ^ d + 1 := by
          generalize (b_D n1 * 2 ^ d - b_D n2) * 2 ^ 9 = Y
          unfold b_st
          split
          · omega
          · rw [or_1]
            omega
        omega
theorem b_dec_inf {n : Nat} (h : b_E n = 2047) (q : ¬ b_nan n) : FP.Core.decode FP.Core.b64 n = .inf (b_s n) := by
  have hT : b_T n = 0 := Decidable.byContradiction (fun z => q ⟨h, z⟩)
  rw [b_dec, if_pos h, if_pos hT]
theorem b_enc_inf {n : Nat} (hn : n < 2 ^ 64) (h : b_E n = 2047) (q : ¬ b_nan n) : FP.Core.encode FP.Core.b64 (.inf (b_s n)) = n := by
  have hT : b_T n = 0 := Decidable.byContradiction (fun z => q ⟨h, z⟩)
  have e := b_parts hn
  rw [h, hT] at e
  show ((b_s n).toNat * 2048 + 2047) * 2 ^ 52 + 0 = n
  unfold sg at e
  omega
/-- the machine's sum of two numbers that are not both infinite -/
theorem k_sum (h : mz_H) {n1 n2 : Nat} (h1 : n1 < 2 ^ 64) (h2 : n2 < 2 ^ 64) (f1 : ¬ b_nan n1) (f2 : ¬ b_nan n2) (ff : b_E n1 ≠ 2047 ∨ b_E n2 ≠ 2047) : ∃ s, r_fit FP.Core.b64 s (FP.Core.round FP.Core.b64 (FP.Core.exactSum (FP.Core.decode FP.Core.b64 n1) (FP.Core.decode FP.Core.b64 n2))) ∧ fn_X3_sum h (lN n1) (lN n2) = some (lN (FP.Core.encode FP.Core.b64 (FP.Core.round FP.Core.b64 (FP.Core.exactSum (FP.Core.decode FP.Core.b64 n1) (FP.Core.decode FP.Core.b64 n2)))), h, 0, 0) := by
  have key : ∀ {a b : Nat}, a < 2 ^ 64 → b < 2 ^ 64 → ¬ b_nan a → (b_E a ≠ 2047 ∨ b_E b ≠ 2047) → b_A b ≤ b_A a → (lg_cmp (lN n1 ^^^ lN n2) 0 < 0 ↔ b_s a ≠ b_s b) → ∃ s, r_fit FP.Core.b64 s (FP.Core.round FP.Core.b64 (FP.Core.exactSum (FP.Core.decode FP.Core.b64 a) (FP.Core.decode FP.Core.b64 b))) ∧ fn_X3_sum_b43 h (lN n1) (lN n2) (lN a) (lN b) = some (lN (FP.Core.encode FP.Core.b64 (FP.Core.round FP.Core.b64 (FP.Core.exactSum (FP.Core.decode FP.Core.b64 a) (FP.Core.decode FP.Core.b64 b)))), h, 0, 0) := by
    intro a b ha hb na fab hA hx
    by_cases fa : b_E a = 2047
    · have fb : b_E b ≠ 2047 := by
        rcases fab with z | z
        · exact absurd fa z
        · exact z
      rw [b_dec_inf fa na, b_dec_fin fb]
      refine ⟨b_s a, Or.inl rfl, ?_⟩
      unfold fn_X3_sum_b43
      rw [k_finite h ha, zl_0, if_pos fa, if_pos rfl, zr_e]
      have : FP.Core.encode FP.Core.b64 (FP.Core.round FP.Core.b64 (FP.Core.exactSum (.inf (b_s a)) (.fin (b_s b) (b_D b) (b_p b)))) = a := b_enc_inf ha fa na
      rw [this]
    · have fb : b_E b ≠ 2047 := by
        have := b_E_lt a
        have := b_T_lt a
        unfold b_A at hA
        omega
      rw [b_dec_fin fa, b_dec_fin fb, k_sum43 h ha hb fa hA hx]
      exact ⟨_, r_ratio_fit FP.Core.b64 _ (by decide) (by decide) _ _, rfl⟩
  have a1 := b_E_lt n1
  have a2 := b_E_lt n2
  have a3 := b_T_lt n1
  have a4 := b_T_lt n2
  have hx := u_xs h1 h2
  unfold fn_X3_sum
  rw [u_A h1, u_A h2]
  have c := u_lt (a := b_E n1 * 2 ^ 52 + b_T n1) (b := b_E n2 * 2 ^ 52 + b_T n2) (by omega) (by omega)
  by_cases g : b_A n1 < b_A n2
  · rw [if_pos (c.mpr g)]
    rw [x_comm]
    exact key h2 h1 f2 ff.symm (Nat.le_of_lt g) (hx.trans ⟨fun z => z.symm, fun z => z.symm⟩)
  · rw [if_neg (fun z => g (c.mp z))]
    exact key h1 h2 f1 ff (Nat.le_of_not_lt g) hx

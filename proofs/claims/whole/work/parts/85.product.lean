/-! numbers: the product -/
theorem mul4 (K a b c d : Nat) : (K * a + b) * (K * c + d) = K * K * (a * c) + K * (a * d + b * c) + b * d := by
  rw [Nat.add_mul, Nat.mul_add, Nat.mul_add, Nat.mul_add, Nat.mul_mul_mul_comm, Nat.mul_assoc K a d, Nat.mul_left_comm b K c]
  omega
theorem k_zero (h : mz_H) {n : Nat} (hn : n < 2 ^ 64) : fn_X3_isZero h (lN n) = some (if b_A n = 0 then 1 else 0, h, 0, 0) := by
  have h1 := b_E_lt n
  have h2 := b_T_lt n
  unfold fn_X3_isZero b_A
  rw [u_A hn]
  have c := u_cmp0 (a := b_E n * 2 ^ 52 + b_T n) (by omega)
  by_cases q : b_E n * 2 ^ 52 + b_T n = 0
  · rw [if_pos (c.mpr q), if_pos q, z_1, zc_t, zr_e]
  · rw [if_neg (fun z => q (c.mp z)), if_neg q, z_0, zc_t, zr_e]
theorem b_D_0 (n : Nat) : b_D n = 0 ↔ b_A n = 0 := by
  have h2 := b_T_lt n
  unfold b_D b_A
  split <;> omega
theorem b_s_xor (a b : Nat) : b_s (a ^^^ b) = (b_s a != b_s b) := by
  rw [b_s_bit, b_s_bit, b_s_bit, Nat.testBit_xor]
theorem b_len_ge {n k : Nat} (h : 2 ^ k ≤ n) : k + 1 ≤ b_len n := by
  have z3 := b_len_lt n
  have z4 : (2 : Nat) ^ k < 2 ^ b_len n := by omega
  exact (Nat.pow_lt_pow_iff_right (show 1 < 2 by omega)).mp z4
theorem b_norm {D : Nat} (h0 : D ≠ 0) (h : D < 2 ^ 53) : 2 ^ 52 ≤ D * 2 ^ (53 - b_len D) ∧ D * 2 ^ (53 - b_len D) < 2 ^ 53 := by
  have hL := b_len_64 h
  have hL1 := b_len_pos h0
  refine ⟨?_, ?_⟩
  · refine Nat.le_trans ?_ (Nat.mul_le_mul_right _ (b_len_le h0))
    rw [← Nat.pow_add]
    exact Nat.pow_le_pow_right (by omega) (by omega)
  · refine Nat.lt_of_lt_of_le (Nat.mul_lt_mul_of_pos_right (b_len_lt D) (Nat.two_pow_pos _)) ?_
    rw [← Nat.pow_add]
    exact Nat.pow_le_pow_right (by omega) (by omega)
theorem k_halves {x y : Nat} (hx : x < 2 ^ 53) (hy : y < 2 ^ 53) : ∃ H L : Nat, x * y = H * 2 ^ 54 + L ∧ L < 2 ^ 54 ∧ H < 2 ^ 53 ∧
    ((mz_ushr (lN x) 27) * (mz_ushr (lN y) 27)) + (mz_ushr ((((mz_ushr (lN x) 27) * (lN y &&& 134217727)) + ((lN x &&& 134217727) * (mz_ushr (lN y) 27))) + (mz_ushr ((lN x &&& 134217727) * (lN y &&& 134217727)) 27)) 27) = lN H ∧
    (mz_shl (((((mz_ushr (lN x) 27) * (lN y &&& 134217727)) + ((lN x &&& 134217727) * (mz_ushr (lN y) 27))) + (mz_ushr ((lN x &&& 134217727) * (lN y &&& 134217727)) 27)) &&& 134217727) 27) ||| (((lN x &&& 134217727) * (lN y &&& 134217727)) &&& 134217727) = lN L := by
  have lo : ∀ n, n < 2 ^ 64 → lN n &&& 134217727 = lN (n % 2 ^ 27) := by
    intro n hn
    rw [show (134217727 : Int64) = lN (2 ^ 27 - 1) from rfl, u_and hn (by decide), Nat.and_two_pow_sub_one_eq_mod]
  have hi : ∀ n, n < 2 ^ 64 → mz_ushr (lN n) 27 = lN (n / 2 ^ 27) := by
    intro n hn
    rw [show (27 : Int32) = nI 27 from rfl, u_shr hn (by omega)]
  have ex := mul4 (2 ^ 27) (x / 2 ^ 27) (x % 2 ^ 27) (y / 2 ^ 27) (y % 2 ^ 27)
  rw [Nat.div_add_mod, Nat.div_add_mod] at ex
  have b1 : x / 2 ^ 27 < 2 ^ 26 := by omega
  have b2 : y / 2 ^ 27 < 2 ^ 26 := by omega
  have b3 : x % 2 ^ 27 < 2 ^ 27 := by omega
  have b4 : y % 2 ^ 27 < 2 ^ 27 := by omega
  rw [lo x (by omega), lo y (by omega), hi x (by omega), hi y (by omega)]
  generalize x / 2 ^ 27 = xh at *
  generalize y / 2 ^ 27 = yh at *
  generalize x % 2 ^ 27 = xl at *
  generalize y % 2 ^ 27 = yl at *
  rw [lN_mul, lN_mul, lN_mul, lN_mul]
  have m1 : xh * yh < 2 ^ 26 * 2 ^ 26 := Nat.mul_lt_mul'' b1 b2
  have m2 : xh * yl < 2 ^ 26 * 2 ^ 27 := Nat.mul_lt_mul'' b1 b4
  have m3 : xl * yh < 2 ^ 27 * 2 ^ 26 := Nat.mul_lt_mul'' b3 b2
  have m4 : xl * yl < 2 ^ 27 * 2 ^ 27 := Nat.mul_lt_mul'' b3 b4
  generalize xh * yh = a at *
  generalize xh * yl = b at *
  generalize xl * yh = c at *
  generalize xl * yl = e at *
  rw [hi e (by omega), lo e (by omega), lN_add, lN_add, hi _ (by omega), lo _ (by omega), lN_add, show (27 : Int32) = nI 27 from rfl, u_shl (by omega), u_or (by omega) (by omega)]
  have eo := Nat.two_pow_add_eq_or_of_lt (i := 27) (b := e % 2 ^ 27) (Nat.mod_lt _ (by decide)) ((b + c + e / 2 ^ 27) % 2 ^ 27)
  rw [Nat.mul_comm ((b + c + e / 2 ^ 27) % 2 ^ 27), ← eo]
  refine ⟨_, _, ?_, ?_, ?_, rfl, rfl⟩
  · omega
  · omega
  · omega
/-- the machine's product of a number and a finite one that is not zero -/
theorem k_product (h : mz_H) {n1 n2 : Nat} (h1 : n1 < 2 ^ 64) (h2 : n2 < 2 ^ 64) (f1 : ¬ b_nan n1) (f2 : b_E n2 ≠ 2047) (z2 : b_A n2 ≠ 0) : ∃ s, r_fit FP.Core.b64 s (FP.Core.round FP.Core.b64 (FP.Core.exactProduct (FP.Core.decode FP.Core.b64 n1) (FP.Core.decode FP.Core.b64 n2))) ∧ fn_X3_product h (lN n1) (lN n2) = some (lN (FP.Core.encode FP.Core.b64 (FP.Core.round FP.Core.b64 (FP.Core.exactProduct (FP.Core.decode FP.Core.b64 n1) (FP.Core.decode FP.Core.b64 n2)))), h, 0, 0) := by
  have D2 : b_D n2 ≠ 0 := fun z => z2 ((b_D_0 n2).mp z)
  have a1 := b_E_lt n1
  have a2 := b_E_lt n2
  have a3 := b_T_lt n1
  unfold fn_X3_product
  rw [u_xor h1 h2, u_S (Nat.xor_lt_two_pow h1 h2), b_s_xor, zo_s, k_finite h h1, zl_0, b_dec_fin f2]
  generalize hs : (b_s n1 != b_s n2) = s
  by_cases g1 : b_E n1 = 2047
  · have hT : b_T n1 = 0 := Decidable.byContradiction (fun z => f1 ⟨g1, z⟩)
    rw [b_dec_inf g1 f1]
    have e : FP.Core.exactProduct (.inf (b_s n1)) (.fin (b_s n2) (b_D n2) (b_p n2)) = .inf s := by
      show (if b_D n2 = 0 then _ else _) = _
      rw [if_neg D2, hs]
    rw [e]
    refine ⟨s, Or.inl rfl, ?_⟩
    rw [if_pos g1, if_pos rfl, zr_e, u_A h1, g1, hT]
    cases s <;> rfl
  · rw [if_neg g1, if_neg (show ¬ (1 : Int32) = 0 by decide), k_zero h h1, zl_0, b_dec_fin g1]
    have e : FP.Core.exactProduct (.fin (b_s n1) (b_D n1) (b_p n1)) (.fin (b_s n2) (b_D n2) (b_p n2)) = .fin s (b_D n1 * b_D n2) (b_p n1 + b_p n2) := by
      show FP.Core.Datum.fin (b_s n1 != b_s n2) _ _ = _
      rw [hs]
    rw [e]
    refine ⟨s, r_ratio_fit FP.Core.b64 _ (by decide) (by decide) _ _, ?_⟩
    by_cases g2 : b_A n1 = 0
    · rw [if_pos g2, if_neg (show ¬ (1 : Int32) = 0 by decide), zr_e, (b_D_0 n1).mpr g2, Nat.zero_mul]
      cases s <;> rfl
    · have D1 : b_D n1 ≠ 0 := fun z => g2 ((b_D_0 n1).mp z)
      have l1 := b_D_lt n1
      have l2 := b_D_lt n2
      obtain ⟨x1, x2⟩ := b_norm D1 l1
      obtain ⟨y1, y2⟩ := b_norm D2 l2
      have k1 := b_len_64 l1
      have k2 := b_len_64 l2
      have hb1 : -1074 ≤ b_p n1 ∧ b_p n1 ≤ 2000 := by
        unfold b_p
        omega
      have hb2 : -1074 ≤ b_p n2 ∧ b_p n2 ≤ 2000 := by
        unfold b_p
        omega
      have e53 : ∀ L, L ≤ 53 → (53 : Int32) - nI L = zI ((53 - L : Nat) : Int) := by
        intro L hL
        rw [← zI_n, show (53 : Int32) = zI 53 from rfl, zI_sub]
        congr 1
        omega
      rw [if_neg g2, if_pos rfl, k_digits h h1, zl_0, k_len h (by omega), zl_0, zo_s, k_digits h h2, zl_0, k_len h (by omega), zl_0, zo_s, k_digits h h1, zl_0, zo_s, k_digits h h2, zl_0, zo_s, e53 _ k1, e53 _ k2]
      obtain ⟨c1, hc1⟩ : ∃ c, c = 53 - b_len (b_D n1) := ⟨_, rfl⟩
      obtain ⟨c2, hc2⟩ : ∃ c, c = 53 - b_len (b_D n2) := ⟨_, rfl⟩
      rw [← hc1] at x1 x2 ⊢
      rw [← hc2] at y1 y2 ⊢
      rw [zI_n c1, zI_n c2, u_shl (by omega), u_shl (by omega)]
      obtain ⟨H, L, p1, p2, p3, p4, p5⟩ := k_halves x2 y2
      rw [zo_s, zo_s, p4, zo_s, p5, zo_s, show (45 : Int32) = nI 45 from rfl, k_shifted h (by omega) (by omega), zl_0, show mz_shl (lN H) 9 = lN (H * 2 ^ 9) from u_shl (k := 9) (by omega)]
      have hst : b_st L 45 < 2 ^ 9 := by
        unfold b_st
        split
        · omega
        · rw [or_1]
          omega
      have eo := Nat.two_pow_add_eq_or_of_lt (i := 9) (b := b_st L 45) hst H
      rw [u_or (by omega) (by omega), Nat.mul_comm H, ← eo, Nat.mul_comm, zo_s, k_power h h1, zl_0, k_power h h2, zl_0, zo_s, ← b_st_add (by omega), Nat.mul_assoc, show (2 : Nat) ^ 9 * 2 ^ 45 = 2 ^ 54 by decide, ← p1]
      have ep : zI (b_p n1) - nI c1 + zI (b_p n2) - nI c2 + 54 - 9 = zI (b_p n1 + b_p n2 - ((c1 + c2 : Nat) : Int) + ((45 : Nat) : Int)) := by
        rw [← zI_n c1, ← zI_n c2, zI_sub, zI_add, zI_sub, show (54 : Int32) = zI 54 from rfl, show (9 : Int32) = zI 9 from rfl, zI_add, zI_sub]
        congr 1
        omega
      have hxy : 2 ^ 104 ≤ b_D n1 * 2 ^ c1 * (b_D n2 * 2 ^ c2) := Nat.le_trans (show 2 ^ 104 ≤ 2 ^ 52 * 2 ^ 52 by decide) (Nat.mul_le_mul x1 y1)
      have hst2 : b_st (b_D n1 * 2 ^ c1 * (b_D n2 * 2 ^ c2)) 45 < 2 ^ 64 := by
        rw [p1, show H * 2 ^ 54 = (H * 2 ^ 9) * 2 ^ 45 by rw [Nat.mul_assoc], b_st_add (by omega)]
        omega
      rw [ep, k_rounded0 h s hst2 (by omega) (by omega), zl_0, zr_e, r_fit_round FP.Core.b64 (by decide) (r_ratio_fit FP.Core.b64 s (by decide) (by decide) _ _), r_sticky FP.Core.b64 s _ (by decide)]
      · rw [show b_D n1 * 2 ^ c1 * (b_D n2 * 2 ^ c2) = b_D n1 * b_D n2 * 2 ^ (c1 + c2) by rw [Nat.pow_add, Nat.mul_mul_mul_comm], r_same]
        rfl
      · intro _
        show 55 ≤ _
        have := b_len_ge (n := b_D n1 * 2 ^ c1 * (b_D n2 * 2 ^ c2) / 2 ^ 45) (k := 59) (by
          rw [Nat.le_div_iff_mul_le (by decide)]
          exact hxy)
        omega

/-! numbers: finite on the reference's side -/
theorem k_finite2 (h : mz_H) {n : Nat} (hn : n < 2 ^ 64) : fn_X12_isFinite h (lN n) = some (if b_E n = 2047 then 0 else 1, h, 0, 0) := by
  have h1 := b_E_lt n
  have h2 := b_T_lt n
  unfold fn_X12_isFinite
  rw [u_A hn, show (9218868437227405312 : Int64) = lN 9218868437227405312 from rfl]
  have c : 0 ≤ lg_cmp (lN (b_E n * 2 ^ 52 + b_T n)) (lN 9218868437227405312) ↔ b_E n = 2047 := by
    rw [← Int32.not_lt, u_lt (by omega) (by omega)]
    omega
  by_cases q : b_E n = 2047
  · rw [if_pos (c.mpr q), if_pos q, z_0, zc_t, zr_e]
  · rw [if_neg (fun z => q (c.mp z)), if_neg q, z_1, zc_t, zr_e]

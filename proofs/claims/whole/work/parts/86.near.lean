/-! numbers: the nearest whole -/
theorem near_even {Z D m : Nat} (hm : 0 < m) (hZ : Z % 2 = 0) : FP.Core.nearest (Z * m + D) m = Z + FP.Core.nearest D m := by
  unfold FP.Core.nearest
  rw [Nat.mul_comm Z, Nat.mul_add_mod, Nat.mul_add_div hm]
  split
  · rfl
  · split
    · omega
    · omega
theorem x_near (s : Bool) {D k : Nat} (hk : k ≤ 1074) (hD : D < 2 ^ 52 * 2 ^ k) :
    r_fit FP.Core.b64 s (FP.Core.round FP.Core.b64 (FP.Core.exactSum (.fin s D (-(k : Int))) (.fin s (2 ^ 52) 0))) ∧
    FP.Core.exactSum (FP.Core.round FP.Core.b64 (FP.Core.exactSum (.fin s D (-(k : Int))) (.fin s (2 ^ 52) 0))) (.fin (!s) (2 ^ 52) 0) = if FP.Core.nearest D (2 ^ k) = 0 then .fin false 0 0 else .fin s (FP.Core.nearest D (2 ^ k)) 0 := by
  have hJ := Nat.two_pow_pos k
  have ex : FP.Core.exactSum (.fin s D (-(k : Int))) (.fin s (2 ^ 52) 0) = .fin s (2 ^ 52 * 2 ^ k + D) (-(k : Int)) := by
    rw [x_comm, x_same s _ _ (by omega), show (0 - -(k : Int)).toNat = k by omega]
  rw [ex]
  refine ⟨r_ratio_fit FP.Core.b64 s (by decide) (by decide) _ _, ?_⟩
  have p52 : (2 : Nat) ^ (52 + k) = 2 ^ 52 * 2 ^ k := Nat.pow_add 2 52 k
  have p53 : (2 : Nat) ^ (52 + k + 1) = 2 * (2 ^ 52 * 2 ^ k) := by
    rw [Nat.pow_succ, p52, Nat.mul_comm]
  have hpos : 0 < 2 ^ 52 * 2 ^ k := Nat.mul_pos (by decide) hJ
  have n0 : 2 ^ 52 * 2 ^ k + D ≠ 0 := by omega
  have hlog : (2 ^ 52 * 2 ^ k + D).log2 = 52 + k := by
    rw [Nat.log2_eq_iff n0, p52, p53]
    omega
  have hq : FP.Core.quantum FP.Core.b64 (2 ^ 52 * 2 ^ k + D) 1 (-(k : Int)) = 0 := by
    rw [r_quant _ n0, hlog, b64_qmin]
    show max (-1074) (((52 + k : Nat) : Int) + -(k : Int) - (53 - 1)) = 0
    omega
  have hN : r_N FP.Core.b64 (2 ^ 52 * 2 ^ k + D) (-(k : Int)) = 2 ^ 52 + FP.Core.nearest D (2 ^ k) := by
    unfold r_N
    rw [hq, show (-(k : Int) - 0).toNat = 0 by omega, show (0 - -(k : Int)).toNat = k by omega, Nat.pow_zero, Nat.mul_one, near_even hJ (by decide)]
  have hw : FP.Core.nearest D (2 ^ k) ≤ 2 ^ 52 := near_le hJ (by omega)
  have hr : FP.Core.round FP.Core.b64 (.fin s (2 ^ 52 * 2 ^ k + D) (-(k : Int))) = FP.Core.settle FP.Core.b64 s (2 ^ 52 + FP.Core.nearest D (2 ^ k)) 0 := by
    show FP.Core.roundRatio FP.Core.b64 s _ 1 _ = _
    rw [r_ratio _ s n0, hq, hN]
  rw [hr]
  generalize FP.Core.nearest D (2 ^ k) = w at hw
  unfold FP.Core.settle FP.Core.bound
  rw [show FP.Core.b64.p = 53 from rfl, b64_qmax, b64_tails]
  by_cases g : 2 ^ 52 + w < 2 ^ 53
  · rw [if_pos g, if_pos (by decide), x_diff s _ _ (by decide) (by rw [show ((0 : Int) - 0).toNat = 0 from rfl]; omega), show ((0 : Int) - 0).toNat = 0 from rfl, Nat.pow_zero, Nat.mul_one]
    by_cases z : w = 0
    · rw [if_pos (by omega), if_pos z]
    · rw [if_neg (by omega), if_neg z, show 2 ^ 52 + w - 2 ^ 52 = w by omega]
  · have hw2 : w = 2 ^ 52 := by omega
    rw [if_neg g, if_pos (by decide), x_diff s _ _ (by decide) (by decide), hw2]
    rfl

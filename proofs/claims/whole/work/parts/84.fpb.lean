/-! numbers: rounding -/
theorem r_lead {n : Nat} (hn : n ≠ 0) : FP.Core.leading n 1 = (n.log2 : Int) := by
  unfold FP.Core.leading
  have e : Nat.log2 1 = 0 := by decide
  simp only [e]
  rw [if_pos]
  · omega
  · have := Nat.log2_self_le hn
    rw [show ((n.log2 : Int) - ((0 : Nat) : Int)).toNat = n.log2 by omega, show (-((n.log2 : Int) - ((0 : Nat) : Int))).toNat = 0 by omega]
    omega
theorem r_scale (a b m : Nat) (hm : 0 < m) : FP.Core.nearest (a * m) (b * m) = FP.Core.nearest a b := by
  unfold FP.Core.nearest
  rw [Nat.mul_mod_mul_right, Nat.mul_div_mul_right _ _ hm, ← Nat.mul_assoc]
  simp only [Nat.mul_lt_mul_right hm]
theorem r_pow_len {n : Nat} (hn : n ≠ 0) (k : Nat) : (n * 2 ^ k).log2 = n.log2 + k := by
  have hp := Nat.two_pow_pos k
  have h0 : n * 2 ^ k ≠ 0 := Nat.mul_ne_zero hn (by omega)
  rw [Nat.log2_eq_iff h0]
  refine ⟨?_, ?_⟩
  · rw [Nat.pow_add]
    exact Nat.mul_le_mul_right _ (Nat.log2_self_le hn)
  · rw [show n.log2 + k + 1 = (n.log2 + 1) + k by omega, Nat.pow_add]
    exact Nat.mul_lt_mul_of_pos_right Nat.lt_log2_self hp
theorem r_quant (f : FP.Core.Fmt) {n : Nat} (hn : n ≠ 0) (e : Int) : FP.Core.quantum f n 1 e = max f.qmin ((n.log2 : Int) + e - ((f.p : Int) - 1)) := by
  unfold FP.Core.quantum
  rw [r_lead hn]
theorem r_same (f : FP.Core.Fmt) (s : Bool) (c k : Nat) (q : Int) : FP.Core.roundRatio f s (c * 2 ^ k) 1 (q - k) = FP.Core.roundRatio f s c 1 q := by
  have hp := Nat.two_pow_pos k
  unfold FP.Core.roundRatio
  by_cases hc : c = 0
  · rw [hc, Nat.zero_mul]
    rfl
  · have h0 : c * 2 ^ k ≠ 0 := Nat.mul_ne_zero hc (by omega)
    rw [if_neg hc, if_neg h0, r_quant f hc, r_quant f h0, r_pow_len hc]
    rw [show ((c.log2 + k : Nat) : Int) + (q - k) - ((f.p : Int) - 1) = (c.log2 : Int) + q - ((f.p : Int) - 1) by omega]
    generalize max f.qmin _ = Q
    unfold FP.Core.roundAt FP.Core.unitsNum FP.Core.unitsDen
    congr 1
    rw [Nat.one_mul, Nat.one_mul]
    have key : ∃ m : Nat, 2 ^ k * 2 ^ (q - k - Q).toNat = 2 ^ (q - Q).toNat * 2 ^ m ∧ 2 ^ (Q - (q - k)).toNat = 2 ^ (Q - q).toNat * 2 ^ m := by
      refine ⟨k + (q - k - Q).toNat - (q - Q).toNat, ?_, ?_⟩
      · rw [← Nat.pow_add, ← Nat.pow_add]
        congr 1
        omega
      · rw [← Nat.pow_add]
        congr 1
        omega
    obtain ⟨m, e1, e2⟩ := key
    rw [Nat.mul_assoc, e1, e2, ← Nat.mul_assoc]
    exact r_scale _ _ _ (Nat.two_pow_pos m)
theorem r_fits (f : FP.Core.Fmt) (s : Bool) {c : Nat} {q : Int} (hp : 1 ≤ f.p) (h1 : c < 2 ^ f.p) (h2 : f.qmin ≤ q) (h3 : q ≤ f.qmax) (h4 : q = f.qmin ∨ 2 ^ (f.p - 1) ≤ c) : FP.Core.roundRatio f s c 1 q = .fin s c q := by
  unfold FP.Core.roundRatio
  by_cases hc : c = 0
  · rw [if_pos hc, hc]
    rcases h4 with z | z
    · rw [z]
    · have := Nat.two_pow_pos (f.p - 1)
      omega
  · rw [if_neg hc, r_quant f hc]
    have l1 : c.log2 < f.p := (Nat.log2_lt hc).mpr h1
    have e : max f.qmin ((c.log2 : Int) + q - ((f.p : Int) - 1)) = q := by
      rcases h4 with z | z
      · omega
      · have : f.p - 1 ≤ c.log2 := (Nat.le_log2 hc).mpr z
        omega
    rw [e]
    unfold FP.Core.roundAt FP.Core.unitsNum FP.Core.unitsDen FP.Core.settle FP.Core.bound
    rw [Int.sub_self]
    simp only [Int.toNat_zero, Nat.pow_zero, Nat.mul_one, near_1]
    rw [if_pos h1, if_pos h3]

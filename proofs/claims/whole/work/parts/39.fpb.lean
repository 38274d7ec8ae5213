/-! numbers: rounding -/
theorem r_lead {n : Nat} (hn : n ≠ 0) : FP.Core.leading n 1 = (n.log2 : Int) := by
  unfold FP.Core.leading
  have e : Nat.log2 1 = 0 := by decide
  simp only [e]
  rw [if_pos]
  · omega
  · have := Nat.log2_self_le hn
    rw [show ((n.log2 : Int) - ((0 : Nat) : Int)).toNat = n.log2 by omega, show (-((n.log2 : Int) - ((0 : Nat) : Int))).toNat = 0 by omega]
    omega
theorem r_scale (a b m : Nat) (hm : 0 < m) : FP.Core.nearest (a * m) (b * m) = FP.Core.nearest a b := by
  unfold FP.Core.nearest
  rw [Nat.mul_mod_mul_right, Nat.mul_div_mul_right _ _ hm, ← Nat.mul_assoc]
  simp only [Nat.mul_lt_mul_right hm]
theorem r_pow_len {n : Nat} (hn : n ≠ 0) (k : Nat) : (n * 2 ^ k).log2 = n.log2 + k := by
  have hp := Nat.two_pow_pos k
  have h0 : n * 2 ^ k ≠ 0 := Nat.mul_ne_zero hn (by omega)
  rw [Nat.log2_eq_iff h0]
  refine ⟨?_, ?_⟩
  · rw [Nat.pow_add]
    exact Nat.mul_le_mul_right _ (Nat.log2_self_le hn)
  · rw [show n.log2 + k + 1 = (n.log2 + 1) + k by omega, Nat.pow_add]
    exact Nat.mul_lt_mul_of_pos_right Nat.lt_log2_self hp
theorem r_quant (f : FP.Core.Fmt) {n : Nat} (hn : n ≠ 0) (e : Int) : FP.Core.quantum f n 1 e = max f.qmin ((n.log2 : Int) + e - ((f.p : Int) - 1)) := by
  unfold FP.Core.quantum
  rw [r_lead hn]
theorem r_same (f : FP.Core.Fmt) (s : Bool) (c k : Nat) (q : Int) : FP.Core.roundRatio f s (c * 2 ^ k) 1 (q - k) = FP.Core.roundRatio f s c 1 q := by
  have hp := Nat.two_pow_pos k
  unfold FP.Core.roundRatio
  by_cases hc : c = 0
  · rw [hc, Nat.zero_mul]
    rfl
  · have h0 : c * 2 ^ k ≠ 0 := Nat.mul_ne_zero hc (by omega)
    rw [if_neg hc, if_neg h0, r_quant f hc, r_quant f h0, r_pow_len hc]
    rw [show ((c.log2 + k : Nat) : Int) + (q - k) - ((f.p : Int) - 1) = (c.log2 : Int) + q - ((f.p : Int) - 1) by omega]
    generalize max f.qmin _ = Q
    unfold FP.Core.roundAt FP.Core.unitsNum FP.Core.unitsDen
    congr 1
    rw [Nat.one_mul, Nat.one_mul]
    have key : ∃ m : Nat, 2 ^ k * 2 ^ (q - k - Q).toNat = 2 ^ (q - Q).toNat * 2 ^ m ∧ 2 ^ (Q - (q - k)).toNat = 2 ^ (Q - q).toNat * 2 ^ m := by
      refine ⟨k + (q - k - Q).toNat - (q - Q).toNat, ?_, ?_⟩
      · rw [← Nat.pow_add, ← Nat.pow_add]
        congr 1
        omega
      · rw [← Nat.pow_add]
        congr 1
        omega
    obtain ⟨m, e1, e2⟩ := key
    rw [Nat.mul_assoc, e1, e2, ← Nat.mul_assoc]
    exact r_scale _ _ _ (Nat.two_pow_pos m)
theorem r_fits (f : FP.Core.Fmt) (s : Bool) {c : Nat} {q : Int} (hp : 1 ≤ f.p) (h1 : c < 2 ^ f.p) (h2 : f.qmin ≤ q) (h3 : q ≤ f.qmax) (h4 : q = f.qmin ∨ 2 ^ (f.p - 1) ≤ c) : FP.Core.roundRatio f s c 1 q = .fin s c q := by
  unfold FP.Core.roundRatio
  by_cases hc : c = 0
  · rw [if_pos hc, hc]
    rcases h4 with z | z
    · rw [z]
    · have := Nat.two_pow_pos (f.p - 1)
      omega
  · rw [if_neg hc, r_quant f hc]
    have l1 : c.log2 < f.p := (Nat.log2_lt hc).mpr h1
    have e : max f.qmin ((c.log2 : Int) + q - ((f.p : Int) - 1)) = q := by
      rcases h4 with z | z
      · omega
      · have : f.p - 1 ≤ c.log2 := (Nat.le_log2 hc).mpr z
        omega
    rw [e]
    unfold FP.Core.roundAt FP.Core.unitsNum FP.Core.unitsDen FP.Core.settle FP.Core.bound
    rw [Int.sub_self]
    simp only [Int.toNat_zero, Nat.pow_zero, Nat.mul_one, near_1]
    rw [if_pos h1, if_pos h3]
theorem near_le {a b X : Nat} (hb : 0 < b) (h : a ≤ X * b) : FP.Core.nearest a b ≤ X := by
  have e := Nat.div_add_mod a b
  have h1 : a / b ≤ X := Nat.div_le_of_le_mul (by rw [Nat.mul_comm]; exact h)
  unfold FP.Core.nearest
  by_cases q : a / b = X
  · have : a % b = 0 := by
      rw [q, Nat.mul_comm] at e
      omega
    rw [this, if_pos (by omega)]
    exact h1
  · split
    · exact h1
    · split <;> omega
theorem near_ge {a b X : Nat} (hb : 0 < b) (h : X * b ≤ a) : X ≤ FP.Core.nearest a b := by
  have h1 : X ≤ a / b := (Nat.le_div_iff_mul_le hb).mpr h
  unfold FP.Core.nearest
  split
  · exact h1
  · split <;> omega
def r_N (f : FP.Core.Fmt) (D : Nat) (p : Int) : Nat := FP.Core.nearest (D * 2 ^ (p - FP.Core.quantum f D 1 p).toNat) (2 ^ (FP.Core.quantum f D 1 p - p).toNat)
theorem r_ratio (f : FP.Core.Fmt) (s : Bool) {D : Nat} (hD : D ≠ 0) (p : Int) : FP.Core.roundRatio f s D 1 p = FP.Core.settle f s (r_N f D p) (FP.Core.quantum f D 1 p) := by
  unfold FP.Core.roundRatio
  rw [if_neg hD]
  unfold FP.Core.roundAt FP.Core.unitsNum FP.Core.unitsDen r_N
  rw [Nat.one_mul]
theorem r_N_ok (f : FP.Core.Fmt) (hp : 1 ≤ f.p) {D : Nat} (hD : D ≠ 0) (p : Int) : r_N f D p ≤ 2 ^ f.p ∧ f.qmin ≤ FP.Core.quantum f D 1 p ∧ (FP.Core.quantum f D 1 p = f.qmin ∨ 2 ^ (f.p - 1) ≤ r_N f D p) := by
  have hq := r_quant f hD p
  unfold r_N
  generalize FP.Core.quantum f D 1 p = Q at hq
  have l1 := Nat.log2_self_le hD
  have l2 := Nat.lt_log2_self (n := D)
  refine ⟨?_, by omega, ?_⟩
  · apply near_le (Nat.two_pow_pos _)
    rw [← Nat.pow_add]
    refine Nat.le_trans (Nat.mul_le_mul_right _ (Nat.le_of_lt l2)) ?_
    rw [← Nat.pow_add]
    exact Nat.pow_le_pow_right (by omega) (by omega)
  · by_cases q : Q = f.qmin
    · exact Or.inl q
    · refine Or.inr ?_
      apply near_ge (Nat.two_pow_pos _)
      rw [← Nat.pow_add]
      refine Nat.le_trans ?_ (Nat.mul_le_mul_right _ l1)
      rw [← Nat.pow_add]
      exact Nat.pow_le_pow_right (by omega) (by omega)
theorem r_settle (f : FP.Core.Fmt) (s : Bool) (hp : 1 ≤ f.p) (hm : f.qmin ≤ f.qmax) {N : Nat} {Q : Int} (h1 : N ≤ 2 ^ f.p) (h2 : f.qmin ≤ Q) (h3 : Q = f.qmin ∨ 2 ^ (f.p - 1) ≤ N) :
    (f.qmax + f.p < Q + b_len N ∧ FP.Core.settle f s N Q = .inf s) ∨ (Q + b_len N ≤ f.qmax + f.p ∧ ∃ c q, FP.Core.settle f s N Q = .fin s c q ∧ c < 2 ^ f.p ∧ f.qmin ≤ q ∧ q ≤ f.qmax ∧ (q = f.qmin ∨ 2 ^ (f.p - 1) ≤ c) ∧ ∀ g, FP.Core.roundRatio g s c 1 q = FP.Core.roundRatio g s N 1 Q) := by
  unfold FP.Core.settle FP.Core.bound
  have ht : f.tails = 2 ^ (f.p - 1) := rfl
  have h2p : (2 : Nat) ^ f.p = 2 ^ (f.p - 1) * 2 ^ 1 := by
    rw [← Nat.pow_add, show f.p - 1 + 1 = f.p by omega]
  have hpos := Nat.two_pow_pos (f.p - 1)
  by_cases g1 : N < 2 ^ f.p
  · rw [if_pos g1]
    have hl : b_len N ≤ f.p := b_len_64 g1
    have hl2 : Q = f.qmin ∨ b_len N = f.p := by
      rcases h3 with z | z
      · exact Or.inl z
      · refine Or.inr ?_
        rw [b_len_eq z (by rw [show f.p - 1 + 1 = f.p by omega]; exact g1)]
        omega
    by_cases g2 : Q ≤ f.qmax
    · rw [if_pos g2]
      exact Or.inr ⟨by omega, N, Q, rfl, g1, h2, g2, h3, fun _ => rfl⟩
    · rw [if_neg g2]
      exact Or.inl ⟨by omega, rfl⟩
  · rw [if_neg g1]
    have hN : N = 2 ^ f.p := by omega
    have hl : b_len N = f.p + 1 := b_len_eq (by omega) (by rw [Nat.pow_succ]; omega)
    by_cases g2 : Q + 1 ≤ f.qmax
    · rw [if_pos g2]
      refine Or.inr ⟨by omega, f.tails, Q + 1, rfl, by omega, by omega, g2, Or.inr (by omega), fun g => ?_⟩
      rw [ht, hN, h2p]
      have := r_same g s (2 ^ (f.p - 1)) 1 (Q + 1)
      rw [← this]
      congr 1
      omega
    · rw [if_neg g2]
      exact Or.inl ⟨by omega, rfl⟩

/-! numbers: a zero's sign -/
theorem x_zero (t : Bool) (c : Nat) {q r : Int} (h : r ≤ q) (hz : ¬ (t = true ∧ c = 0)) (s : Bool) : FP.Core.exactSum (.fin t c q) (.fin s 0 r) = .fin t (c * 2 ^ (q - r).toNat) r := by
  by_cases g : s = t
  · subst g
    rw [x_same s c 0 h]
    rfl
  · have hs : s = !t := by
      revert g
      cases s <;> cases t <;> decide
    subst hs
    rw [x_diff t c 0 h (Nat.zero_le _)]
    by_cases w : c * 2 ^ (q - r).toNat = 0
    · rw [if_pos w, w]
      have hc : c = 0 := by
        rcases Nat.mul_eq_zero.mp w with z | z
        · exact z
        · exact absurd z (Nat.ne_of_gt (Nat.two_pow_pos _))
      cases t
      · rfl
      · exact absurd ⟨rfl, hc⟩ hz
    · rw [if_neg w]
      rfl
theorem r_nz (s : Bool) {D : Nat} (hD : D ≠ 0) {p : Int} (hp : -1074 ≤ p) (t : Bool) (z : Int) : FP.Core.roundRatio FP.Core.b64 s D 1 p ≠ .fin t 0 z := by
  obtain ⟨n1, n2, n3⟩ := r_N_ok FP.Core.b64 (by decide) hD p
  have hN : r_N FP.Core.b64 D p ≠ 0 := by
    rcases n3 with e | e
    · unfold r_N
      rw [e, b64_qmin, show (-1074 - p).toNat = 0 by omega, Nat.pow_zero, near_1]
      exact Nat.mul_ne_zero hD (Nat.ne_of_gt (Nat.two_pow_pos _))
    · have : 0 < 2 ^ (FP.Core.b64.p - 1) := Nat.two_pow_pos _
      omega
  rw [r_ratio FP.Core.b64 s hD p]
  unfold FP.Core.settle FP.Core.bound
  rw [b64_tails]
  intro e
  split at e
  · split at e
    · injection e with _ e2 _
      exact hN e2
    · cases e
  · split at e
    · cases e
    · cases e
theorem x_nz {t s : Bool} {c d : Nat} {q r : Int} (hq : -1074 ≤ q) (hr : -1074 ≤ r) (hz : ¬ (t = true ∧ c = 0)) (z : Int) : FP.Core.round FP.Core.b64 (FP.Core.exactSum (.fin t c q) (.fin s d r)) ≠ .fin true 0 z := by
  show FP.Core.roundRatio FP.Core.b64 (FP.Core.sumSign t s (FP.Core.sumUnits t c q s d r (min q r))) (FP.Core.sumUnits t c q s d r (min q r)).natAbs 1 (min q r) ≠ _
  by_cases w : FP.Core.sumUnits t c q s d r (min q r) = 0
  · rw [w]
    unfold FP.Core.sumSign
    rw [if_pos rfl]
    intro e
    have e2 : FP.Core.Datum.fin (t && s) 0 FP.Core.b64.qmin = .fin true 0 z := e
    injection e2 with e3
    have e4 : t = true ∧ s = true := by
      revert e3
      cases t <;> cases s <;> decide
    obtain ⟨rfl, rfl⟩ := e4
    apply hz
    refine ⟨rfl, ?_⟩
    unfold FP.Core.sumUnits FP.Core.signed FP.Core.inUnits at w
    simp only [if_true] at w
    have : c * 2 ^ (q - min q r).toNat = 0 := by omega
    rcases Nat.mul_eq_zero.mp this with y | y
    · exact y
    · exact absurd y (Nat.ne_of_gt (Nat.two_pow_pos _))
  · exact r_nz _ (by omega) (by omega) _ _

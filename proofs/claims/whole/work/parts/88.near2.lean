/-! numbers: the nearest whole on both sides -/
def b_w (n : Nat) : Nat := FP.Core.nearest (b_D n) (2 ^ (-b_p n).toNat)
theorem b_p_ge (n : Nat) : -1074 ≤ b_p n ∧ b_p n ≤ 2000 := by
  have := b_E_lt n
  unfold b_p
  omega
theorem b_w_le {n : Nat} (hp : b_p n < 0) : b_w n ≤ 2 ^ 52 := by
  have l := b_D_lt n
  unfold b_w
  apply near_le (Nat.two_pow_pos _)
  have := Nat.pow_le_pow_right (show 0 < 2 by omega) (show 1 ≤ (-b_p n).toNat by omega)
  have := Nat.mul_le_mul_left (2 ^ 52) this
  omega
theorem k_nearW (h : mz_H) {n : Nat} (hn : n < 2 ^ 64) : (0 ≤ b_p n → fn_X3_nearestWhole h (lN n) = some (lN n, h, 0, 0)) ∧ (b_p n < 0 → fn_X3_nearestWhole h (lN n) = some (lN (FP.Core.encode FP.Core.b64 (FP.Core.round FP.Core.b64 (.fin (b_s n) (b_w n) 0))), h, 0, 0)) := by
  have hb := b_p_ge n
  have l := b_D_lt n
  have c : (0 : Int32) < -zI (b_p n) ↔ b_p n < 0 := by
    rw [zI_neg, show (0 : Int32) = zI 0 from rfl, zI_lt (by omega) (by omega) (by omega) (by omega)]
    omega
  refine ⟨fun hp => ?_, fun hp => ?_⟩
  · unfold fn_X3_nearestWhole
    rw [k_power h hn, zl_0, if_neg (fun z => absurd (c.mp z) (by omega)), zr_e]
  · have hw := b_w_le hp
    have h0 : (0 : Int32) = zI 0 := rfl
    unfold fn_X3_nearestWhole
    rw [k_power h hn, zl_0, if_pos (c.mpr hp), k_digits h hn, zl_0, zI_neg, show -b_p n = ((-b_p n).toNat : Int) by omega, zI_n, k_without h (by omega) (by omega), zl_0, u_S hn]
    rw [show FP.Core.nearest (b_D n) (2 ^ (-b_p n).toNat) = b_w n from rfl]
    rcases k_packed h (b_s n) (D := b_w n) (top := 1024) (p := 0) (by omega) (by omega) (by omega) (by omega) with ⟨q, r⟩ | ⟨q, q2, r⟩ | ⟨q, q2, r⟩
    · have r' : fn_X3_packed h (lN (sg (b_s n))) (lN (b_w n)) 0 1024 = _ := r
      rw [r', zl_0, zr_e, q]
      rfl
    · exfalso
      have := b_len_64 (n := b_w n) (k := 53) (by omega)
      omega
    · have r' : fn_X3_packed h (lN (sg (b_s n))) (lN (b_w n)) 0 1024 = _ := r (by omega)
      rw [r', zl_0, zr_e]
      rfl
theorem m_dec {n : Nat} (hn : n < 2 ^ 64) : FP.Core.decode FP.Core.b64 (UInt64.ofNat n).toNat = FP.Core.decode FP.Core.b64 n := by
  rw [UInt64.toNat_ofNat', Nat.mod_eq_of_lt hn]
theorem m_add {a b : Nat} (ha : a < 2 ^ 64) (hb : b < 2 ^ 64) : FP.dadd (UInt64.ofNat a) (UInt64.ofNat b) = UInt64.ofNat (FP.Core.encode FP.Core.b64 (FP.Core.round FP.Core.b64 (FP.Core.exactSum (FP.Core.decode FP.Core.b64 a) (FP.Core.decode FP.Core.b64 b)))) := by
  show UInt64.ofNat (FP.Core.encode FP.Core.b64 (FP.Core.round FP.Core.b64 (FP.Core.exactSum (FP.Core.decode FP.Core.b64 (UInt64.ofNat a).toNat) (FP.Core.decode FP.Core.b64 (UInt64.ofNat b).toNat)))) = _
  rw [m_dec ha, m_dec hb]
theorem m_sub {a b : Nat} (ha : a < 2 ^ 64) (hb : b < 2 ^ 64) : FP.dsub (UInt64.ofNat a) (UInt64.ofNat b) = UInt64.ofNat (FP.Core.encode FP.Core.b64 (FP.Core.round FP.Core.b64 (FP.Core.exactSum (FP.Core.decode FP.Core.b64 a) (FP.Core.negate (FP.Core.decode FP.Core.b64 b))))) := by
  show UInt64.ofNat (FP.Core.encode FP.Core.b64 (FP.Core.round FP.Core.b64 (FP.Core.exactSum (FP.Core.decode FP.Core.b64 (UInt64.ofNat a).toNat) (FP.Core.negate (FP.Core.decode FP.Core.b64 (UInt64.ofNat b).toNat))))) = _
  rw [m_dec ha, m_dec hb]
theorem m_52 : FP.Core.decode FP.Core.b64 4841369599423283200 = .fin false (2 ^ 52) 0 := by decide +kernel
def b_wd (n : Nat) : FP.Core.Datum := if b_w n = 0 then .fin false 0 0 else .fin (b_s n) (b_w n) 0
theorem m_near (n : Nat) (hn : n < 2 ^ 64) (hp : b_p n < 0) (f : b_E n ≠ 2047) : ∃ m, m < 2 ^ 64 ∧ mz_n64 (UInt64.ofNat m) = true ∧ UInt64.ofNat m = (if b_s n then FP.dsub (UInt64.ofNat n) (UInt64.ofNat 4841369599423283200) else FP.dadd (UInt64.ofNat n) (UInt64.ofNat 4841369599423283200)) ∧
    (if b_s n then FP.dadd (UInt64.ofNat m) (UInt64.ofNat 4841369599423283200) else FP.dsub (UInt64.ofNat m) (UInt64.ofNat 4841369599423283200)) = UInt64.ofNat (FP.Core.encode FP.Core.b64 (FP.Core.round FP.Core.b64 (b_wd n))) := by
  have hb := b_p_ge n
  have l := b_D_lt n
  have hD : b_D n < 2 ^ 52 * 2 ^ (-b_p n).toNat := by
    have := Nat.pow_le_pow_right (show 0 < 2 by omega) (show 1 ≤ (-b_p n).toNat by omega)
    have := Nat.mul_le_mul_left (2 ^ 52) this
    omega
  obtain ⟨x1, x2⟩ := x_near (b_s n) (D := b_D n) (k := (-b_p n).toNat) (by omega) hD
  rw [show -((-b_p n).toNat : Int) = b_p n by omega] at x1 x2
  have hd := b_dec_fin f
  rw [show FP.Core.nearest (b_D n) (2 ^ (-b_p n).toNat) = b_w n from rfl] at x2
  unfold b_wd
  generalize b_s n = s at hd x1 x2 ⊢
  obtain ⟨y1, y2, y3⟩ := b64_dec x1
  have h52 : 4841369599423283200 < 2 ^ 64 := by decide
  rw [← x2]
  refine ⟨FP.Core.encode FP.Core.b64 (FP.Core.round FP.Core.b64 (FP.Core.exactSum (.fin s (b_D n) (b_p n)) (.fin s (2 ^ 52) 0))), y2, n64_ok y2 y3, ?_, ?_⟩
  · rw [m_add hn h52, m_sub hn h52, hd, m_52]
    cases s <;> rfl
  · rw [m_sub y2 h52, m_add y2 h52, y1, m_52]
    cases s <;> rfl
theorem m_V52 : b_V 4841369599423283200 = ((2 ^ 52 * 2 ^ 1074 : Nat) : Int) := by decide +kernel
theorem m_Vn52 : b_V 14064741636278059008 = -((2 ^ 52 * 2 ^ 1074 : Nat) : Int) := by decide +kernel
theorem m_V0 : b_V 0 = 0 := by decide +kernel
theorem m_neg : FP.dneg 4841369599423283200 = UInt64.ofNat 14064741636278059008 := by decide +kernel
theorem b_M_52 (n : Nat) : (0 ≤ b_p n → 2 ^ 52 * 2 ^ 1074 ≤ b_M n) ∧ (b_p n < 0 → b_M n < 2 ^ 52 * 2 ^ 1074) := by
  have hb := b_p_ge n
  have l := b_D_lt n
  unfold b_M
  refine ⟨fun hp => ?_, fun hp => ?_⟩
  · have l2 : 2 ^ 52 ≤ b_D n := by
      unfold b_p at hp
      unfold b_D
      rw [if_neg (by omega)]
      omega
    exact Nat.mul_le_mul l2 (Nat.pow_le_pow_right (by omega) (by omega))
  · refine Nat.lt_of_lt_of_le (Nat.mul_lt_mul_of_pos_right l (Nat.two_pow_pos _)) ?_
    rw [← Nat.pow_add, ← Nat.pow_add]
    exact Nat.pow_le_pow_right (by omega) (by omega)
theorem k_refNear (h : mz_H) {n : Nat} (hn : n < 2 ^ 64) (f : b_E n ≠ 2047) : (0 ≤ b_p n → fn_X12_nearest h (UInt64.ofNat n) = some (UInt64.ofNat n, h, 0, 0)) ∧ (b_p n < 0 → fn_X12_nearest h (UInt64.ofNat n) = some (UInt64.ofNat (FP.Core.encode FP.Core.b64 (FP.Core.round FP.Core.b64 (b_wd n))), h, 0, 0)) := by
  have c1 := k_dcmp hn (show 4841369599423283200 < 2 ^ 64 by decide) f (by decide +kernel)
  have c2 := k_dcmp hn (show 14064741636278059008 < 2 ^ 64 by decide) f (by decide +kernel)
  have c3 := k_dcmp hn (show 0 < 2 ^ 64 by decide) f (by decide +kernel)
  rw [m_V52] at c1
  rw [m_Vn52] at c2
  rw [m_V0] at c3
  obtain ⟨k1, k2⟩ := b_M_52 n
  have hV := b_V_M n
  unfold FP.Core.signed at hV
  unfold fn_X12_nearest
  rw [m_neg, show (4841369599423283200 : UInt64) = UInt64.ofNat 4841369599423283200 from rfl, show FP.dconst0 = UInt64.ofNat 0 from rfl, c1, c2, c3]
  simp only [cv_ge, cv_gt]
  have hB : 0 < 2 ^ 52 * 2 ^ 1074 := Nat.mul_pos (by decide) (Nat.two_pow_pos _)
  generalize 2 ^ 52 * 2 ^ 1074 = B at k1 k2 hB ⊢
  refine ⟨fun hp => ?_, fun hp => ?_⟩
  · have := k1 hp
    by_cases g : (B : Int) ≤ b_V n
    · rw [if_pos g]
      rfl
    · rw [if_neg g, if_neg]
      · rfl
      · split at hV <;> omega
  · have := k2 hp
    rw [if_neg (by split at hV <;> omega), if_pos (by split at hV <;> omega)]
    obtain ⟨m, m1, m2, m3, m4⟩ := m_near n hn hp f
    obtain ⟨s, hfit⟩ : ∃ s, r_fit FP.Core.b64 s (FP.Core.round FP.Core.b64 (b_wd n)) := by
      unfold b_wd
      split
      · exact ⟨_, r_ratio_fit FP.Core.b64 _ (by decide) (by decide) _ _⟩
      · exact ⟨_, r_ratio_fit FP.Core.b64 _ (by decide) (by decide) _ _⟩
    obtain ⟨y1, y2, y3⟩ := b64_dec hfit
    have n2 := n64_ok y2 y3
    by_cases hs : b_s n = true
    · rw [if_pos hs] at m3 m4 hV
      by_cases g : 0 ≤ b_V n
      · have hM : b_M n = 0 := by omega
        have hA : b_A n = 0 := by
          rw [← b_D_0]
          unfold b_M at hM
          rcases Nat.mul_eq_zero.mp hM with z | z
          · exact z
          · exact absurd z (Nat.ne_of_gt (Nat.two_pow_pos _))
        have en : n = 9223372036854775808 := by
          have e := b_parts hn
          unfold b_A at hA
          rw [hs] at e
          have : sg true = 9223372036854775808 := by decide
          omega
        rw [if_pos g]
        clear m3 m4 y1 y2 y3 n2 hfit c1 c2 c3 hV k1 k2
        subst en
        rw [show FP.dadd (UInt64.ofNat 9223372036854775808) (UInt64.ofNat 4841369599423283200) = UInt64.ofNat 4841369599423283200 by decide +kernel, show FP.dsub (UInt64.ofNat 4841369599423283200) (UInt64.ofNat 4841369599423283200) = UInt64.ofNat 0 by decide +kernel, show mz_n64 (UInt64.ofNat 4841369599423283200) = true by decide +kernel, show mz_n64 (UInt64.ofNat 0) = true by decide +kernel, zc_t, zc_t, zr_e, show FP.Core.encode FP.Core.b64 (FP.Core.round FP.Core.b64 (b_wd 9223372036854775808)) = 0 by decide +kernel]
      · rw [if_neg g, ← m3, m2, zc_t, m4, n2, zc_t, zr_e]
    · rw [if_neg hs] at m3 m4 hV
      rw [if_pos (by omega), ← m3, m2, zc_t, m4, n2, zc_t, zr_e]

/-! numbers: the nearest whole on both sides -/
def b_w (n : Nat) : Nat := FP.Core.nearest (b_D n) (2 ^ (-b_p n).toNat)
theorem b_p_ge (n : Nat) : -1074 ≤ b_p n ∧ b_p n ≤ 2000 := by
  have := b_E_lt n
  unfold b_p
  omega
theorem b_w_le {n : Nat} (hp : b_p n < 0) : b_w n ≤ 2 ^ 52 := by
  have l := b_D_lt n
  unfold b_w
  apply near_le (Nat.two_pow_pos _)
  have := Nat.pow_le_pow_right (show 0 < 2 by omega) (show 1 ≤ (-b_p n).toNat by omega)
  have := Nat.mul_le_mul_left (2 ^ 52) this
  omega
theorem k_nearW (h : mz_H) {n : Nat} (hn : n < 2 ^ 64) : (0 ≤ b_p n → fn_X3_nearestWhole h (lN n) = some (lN n, h, 0, 0)) ∧ (b_p n < 0 → fn_X3_nearestWhole h (lN n) = some (lN (FP.Core.encode FP.Core.b64 (FP.Core.round FP.Core.b64 (.fin (b_s n) (b_w n) 0))), h, 0, 0)) := by
  have hb := b_p_ge n
  have l := b_D_lt n
  have c : (0 : Int32) < -zI (b_p n) ↔ b_p n < 0 := by
    rw [zI_neg, show (0 : Int32) = zI 0 from rfl, zI_lt (by omega) (by omega) (by omega) (by omega)]
    omega
  refine ⟨fun hp => ?_, fun hp => ?_⟩
  · unfold fn_X3_nearestWhole
    rw [k_power h hn, zl_0, if_neg (fun z => absurd (c.mp z) (by omega)), zr_e]
  · have hw := b_w_le hp
    have h0 : (0 : Int32) = zI 0 := rfl
    unfold fn_X3_nearestWhole
    rw [k_power h hn, zl_0, if_pos (c.mpr hp), k_digits h hn, zl_0, zI_neg, show -b_p n = ((-b_p n).toNat : Int) by omega, zI_n, k_without h (by omega) (by omega), zl_0, u_S hn]
    rw [show FP.Core.nearest (b_D n) (2 ^ (-b_p n).toNat) = b_w n from rfl]
    rcases k_packed h (b_s n) (D := b_w n) (top := 1024) (p := 0) (by omega) (by omega) (by omega) (by omega) with ⟨q, r⟩ | ⟨q, q2, r⟩ | ⟨q, q2, r⟩
    · have r' : fn_X3_packed h (lN (sg (b_s n))) (lN (b_w n)) 0 1024 = _ := r
      rw [r', zl_0, zr_e, q]
      rfl
    · exfalso
      have := b_len_64 (n := b_w n) (k := 53) (by omega)
      omega
    · have r' : fn_X3_packed h (lN (sg (b_s n))) (lN (b_w n)) 0 1024 = _ := r (by omega)
      rw [r', zl_0, zr_e]
      rfl
theorem m_dec {n : Nat} (hn : n < 2 ^ 64) : FP.Core.decode FP.Core.b64 (UInt64.ofNat n).toNat = FP.Core.decode FP.Core.b64 n := by
  rw [UInt64.toNat_ofNat', Nat.mod_eq_of_lt hn]
theorem m_add {a b : Nat} (ha : a < 2 ^ 64) (hb : b < 2 ^ 64) : FP.dadd (UInt64.ofNat a) (UInt64.ofNat b) = UInt64.ofNat (FP.Core.encode FP.Core.b64 (FP.Core.round FP.Core.b64 (FP.Core.exactSum (FP.Core.decode FP.Core.b64 a) (FP.Core.decode FP.Core.b64 b)))) := by
  show UInt64.ofNat (FP.Core.encode FP.Core.b64 (FP.Core.round FP.Core.b64 (FP.Core.exactSum (FP.Core.decode FP.Core.b64 (UInt64.ofNat a).toNat) (FP.Core.decode FP.Core.b64 (UInt64.ofNat b).toNat)))) = _
  rw [m_dec ha, m_dec hb]
theorem m_sub {a b : Nat} (ha : a < 2 ^ 64) (hb : b < 2 ^ 64) : FP.dsub (UInt64.ofNat a) (UInt64.ofNat b) = UInt64.ofNat (FP.Core.encode FP.Core.b64 (FP.Core.round FP.Core.b64 (FP.Core.exactSum (FP.Core.decode FP.Core.b64 a) (FP.Core.negate (FP.Core.decode FP.Core.b64 b))))) := by
  show UInt64.ofNat (FP.Core.encode FP.Core.b64 (FP.Core.round FP.Core.b64 (FP.Core.exactSum (FP.Core.decode FP.Core.b64 (UInt64.ofNat a).toNat) (FP.Core.negate (FP.Core.decode FP.Core.b64 (UInt64.ofNat b).toNat))))) = _
  rw [m_dec ha, m_dec hb]
theorem m_52 : FP.Core.decode FP.Core.b64 4841369599423283200 = .fin false (2 ^ 52) 0 := by decide +kernel
def b_wd (n : Nat) : FP.Core.Datum := if b_w n = 0 then .fin false 0 0 else .fin (b_s n) (b_w n) 0
theorem m_near (n : Nat) (hn : n < 2 ^ 64) (hp : b_p n < 0) (f : b_E n ≠ 2047) : ∃ m, m < 2 ^ 64 ∧ mz_n64 (UInt64.ofNat m) = true ∧ UInt64.ofNat m = (if b_s n then FP.dsub (UInt64.ofNat n) (UInt64.ofNat 4841369599423283200) else FP.dadd (UInt64.ofNat n) (UInt64.ofNat 4841369599423283200)) ∧
    (if b_s n then FP.dadd (UInt64.ofNat m) (UInt64.ofNat 4841369599423283200) else FP.dsub (UInt64.ofNat m) (UInt64.ofNat 4841369599423283200)) = UInt64.ofNat (FP.Core.encode FP.Core.b64 (FP.Core.round FP.Core.b64 (b_wd n))) := by
  have hb := b_p_ge n
  have l := b_D_lt n
  have hD : b_D n < 2 ^ 52 * 2 ^ (-b_p n).toNat := by
    have := Nat.pow_le_pow_right (show 0 < 2 by omega) (show 1 ≤ (-b_p n).toNat by omega)
    have := Nat.mul_le_mul_left (2 ^ 52) this
    omega
  obtain ⟨x1, x2⟩ := x_near (b_s n) (D := b_D n) (k := (-b_p n).toNat) (by omega) hD
  rw [show -((-b_p n).toNat : Int) = b_p n by omega] at x1 x2
  have hd := b_dec_fin f
  rw [show FP.Core.nearest (b_D n) (2 ^ (-b_p n).toNat) = b_w n from rfl] at x2
  unfold b_wd
  generalize b_s n = s at hd x1 x2 ⊢
  obtain ⟨y1, y2, y3⟩ := b64_dec x1
  have h52 : 4841369599423283200 < 2 ^ 64 := by decide
  rw [← x2]
  refine ⟨FP.Core.encode FP.Core.b64 (FP.Core.round FP.Core.b64 (FP.Core.exactSum (.fin s (b_D n) (b_p n)) (.fin s (2 ^ 52) 0))), y2, n64_ok y2 y3, ?_, ?_⟩
  · rw [m_add hn h52, m_sub hn h52, hd, m_52]
    cases s <;> rfl
  · rw [m_sub y2 h52, m_add y2 h52, y1, m_52]
    cases s <;> rfl

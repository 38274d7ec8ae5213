/-! numbers: the whole below on both sides -/
def b_fw (n : Nat) : Nat := b_D n / 2 ^ (-b_p n).toNat
abbrev b_fz (n : Nat) : Prop := b_D n % 2 ^ (-b_p n).toNat = 0
theorem b_fw_le {n : Nat} (hp : b_p n < 0) : b_fw n < 2 ^ 52 := by
  have l := b_D_lt n
  unfold b_fw
  apply Nat.div_lt_of_lt_mul
  have := Nat.pow_le_pow_right (show 0 < 2 by omega) (show 1 ≤ (-b_p n).toNat by omega)
  have := Nat.mul_le_mul_right (2 ^ 52) this
  omega
theorem k_pack0 (h : mz_H) {n W : Nat} (hn : n < 2 ^ 64) (hW : W ≤ 2 ^ 52) : fn_X3_floorOf_b75 h (lN n) (lN W) = some (lN (b_i (b_s n) W), h, 0, 0) := by
  unfold fn_X3_floorOf_b75
  rw [u_S hn]
  rcases k_packed h (b_s n) (D := W) (top := 1024) (p := 0) (by omega) (by omega) (by omega) (by omega) with ⟨q, r⟩ | ⟨q, q2, r⟩ | ⟨q, q2, r⟩
  · have r' : fn_X3_packed h (lN (sg (b_s n))) (lN W) 0 1024 = _ := r
    rw [r', zl_0, zr_e, q]
    rfl
  · exfalso
    have := b_len_64 (n := W) (k := 53) (by omega)
    omega
  · have r' : fn_X3_packed h (lN (sg (b_s n))) (lN W) 0 1024 = _ := r (by omega)
    rw [r', zl_0, zr_e]
    rfl
theorem k_floor58 (h : mz_H) {n W : Nat} {x : Int32} (hn : n < 2 ^ 64) (hW : W < 2 ^ 52) (hx : x = 0 ∨ x = 1) : fn_X3_floorOf_b58 h (lN n) (lN W) x = some (lN (b_i (b_s n) (if b_s n = true ∧ x = 0 then W + 1 else W)), h, 0, 0) := by
  unfold fn_X3_floorOf_b58
  by_cases q : b_s n = false
  · rw [if_pos ((b_s_f hn).mpr q), if_neg (fun z => by rw [q] at z; exact absurd z.1 (by decide))]
    exact k_pack0 h hn (by omega)
  · have q' : b_s n = true := by
      revert q
      cases b_s n <;> decide
    rw [if_neg (fun z => q ((b_s_f hn).mp z))]
    rcases hx with rfl | rfl
    · rw [if_pos rfl, if_pos ⟨q', rfl⟩, lN_1, zo_s]
      exact k_pack0 h hn (by omega)
    · rw [if_neg one0, if_neg (fun z => absurd z.2 one0)]
      exact k_pack0 h hn (by omega)
theorem k_floor (h : mz_H) {n : Nat} (hn : n < 2 ^ 64) : (0 ≤ b_p n → fn_X3_floorOf h (lN n) = some (lN n, h, 0, 0)) ∧ (b_p n < 0 → ∃ x : Int32, (x = 0 ∨ x = 1) ∧ (x = 1 ↔ b_fz n) ∧ fn_X3_floorOf h (lN n) = some (lN (b_i (b_s n) (if b_s n = true ∧ x = 0 then b_fw n + 1 else b_fw n)), h, 0, 0)) := by
  have hb := b_p_ge n
  have l := b_D_lt n
  have c : (0 : Int32) < -zI (b_p n) ↔ b_p n < 0 := by
    rw [zI_neg, show (0 : Int32) = zI 0 from rfl, zI_lt (by omega) (by omega) (by omega) (by omega)]
    omega
  refine ⟨fun hp => ?_, fun hp => ?_⟩
  · unfold fn_X3_floorOf
    rw [k_power h hn, zl_0, if_neg (fun z => absurd (c.mp z) (by omega)), zr_e]
  · have hw := b_fw_le hp
    have hk : -b_p n = ((-b_p n).toNat : Int) := by omega
    have c2 : (64 : Int32) ≤ nI (-b_p n).toNat ↔ 64 ≤ (-b_p n).toNat := nI_leI (by decide) (by omega)
    unfold fn_X3_floorOf fn_X3_floorOf_b28
    rw [k_power h hn, zl_0, if_pos (c.mpr hp), zI_neg, hk, zI_n]
    by_cases g : 64 ≤ (-b_p n).toNat
    · have hbig := Nat.pow_le_pow_right (show 0 < 2 by omega) (show 53 ≤ (-b_p n).toNat by omega)
      have e0 : b_fw n = 0 := Nat.div_eq_of_lt (by omega)
      have e1 : b_fz n ↔ b_A n = 0 := by
        unfold b_fz
        rw [Nat.mod_eq_of_lt (by omega), b_D_0]
      rw [if_pos (c2.mpr g), if_pos (c2.mpr g), k_zero h hn, zl_0]
      by_cases z : b_A n = 0
      · rw [if_pos z]
        refine ⟨1, Or.inr rfl, ⟨fun _ => e1.mpr z, fun _ => rfl⟩, ?_⟩
        rw [e0]
        exact k_floor58 h hn (W := 0) (by decide) (Or.inr rfl)
      · rw [if_neg z]
        refine ⟨0, Or.inl rfl, ⟨fun y => absurd y (by decide), fun y => absurd (e1.mp y) z⟩, ?_⟩
        rw [e0]
        exact k_floor58 h hn (W := 0) (by decide) (Or.inl rfl)
    · rw [if_neg (fun z => g (c2.mp z)), k_digits h hn, zl_0, if_neg (fun z => g (c2.mp z)), k_digits h hn, zl_0, u_shr (by omega) (by omega), u_shl (by omega)]
      have hm : b_D n / 2 ^ (-b_p n).toNat * 2 ^ (-b_p n).toNat ≤ b_D n := Nat.div_mul_le_self _ _
      have e1 : b_D n / 2 ^ (-b_p n).toNat * 2 ^ (-b_p n).toNat = b_D n ↔ b_fz n := by
        unfold b_fz
        have := Nat.div_add_mod (b_D n) (2 ^ (-b_p n).toNat)
        rw [Nat.mul_comm] at this
        omega
      by_cases z : b_fz n
      · rw [if_pos ((u_cmp (by omega) (by omega)).mpr (e1.mpr z))]
        exact ⟨1, Or.inr rfl, ⟨fun _ => z, fun _ => rfl⟩, k_floor58 h hn hw (Or.inr rfl)⟩
      · rw [if_neg (fun y => z (e1.mp ((u_cmp (by omega) (by omega)).mp y)))]
        exact ⟨0, Or.inl rfl, ⟨fun y => absurd y (by decide), fun y => absurd y z⟩, k_floor58 h hn hw (Or.inl rfl)⟩
theorem m_1 : FP.Core.decode FP.Core.b64 4607182418800017408 = .fin false (2 ^ 52) (-52) := by decide +kernel
theorem x_minus1 {s : Bool} {W k : Nat} (hs : W = 0 ∨ s = true) (hk : k ≤ 1074) : FP.Core.exactSum (.fin s (W * 2 ^ k) (-(k : Int))) (.fin true (2 ^ 52) (-52)) = .fin true ((W + 1) * 2 ^ max k 52) (-((max k 52 : Nat) : Int)) := by
  have hm : min (-(k : Int)) (-52) = -((max k 52 : Nat) : Int) := by omega
  have e : FP.Core.sumUnits s (W * 2 ^ k) (-(k : Int)) true (2 ^ 52) (-52) (min (-(k : Int)) (-52)) = -(((W + 1) * 2 ^ max k 52 : Nat) : Int) := by
    rw [hm]
    unfold FP.Core.sumUnits FP.Core.inUnits
    rw [Nat.mul_assoc, ← Nat.pow_add, ← Nat.pow_add, show k + (-(k : Int) - -((max k 52 : Nat) : Int)).toNat = max k 52 by omega, show 52 + (-52 - -((max k 52 : Nat) : Int)).toNat = max k 52 by omega]
    generalize 2 ^ max k 52 = Z
    unfold FP.Core.signed
    rw [if_pos rfl, Nat.add_mul, Nat.one_mul]
    rcases hs with rfl | rfl
    · rw [Nat.zero_mul]
      split <;> omega
    · rw [if_pos rfl]
      omega
  show FP.Core.Datum.fin _ _ _ = _
  rw [e, hm]
  have hpos : 0 < (W + 1) * 2 ^ max k 52 := Nat.mul_pos (by omega) (Nat.two_pow_pos _)
  generalize (W + 1) * 2 ^ max k 52 = Z at hpos
  unfold FP.Core.sumSign
  rw [if_neg (by omega), decide_eq_true (by omega), show (-(Z : Int)).natAbs = Z by omega]
theorem k_belowD (h : mz_H) {n : Nat} (hn : n < 2 ^ 64) (f : b_E n ≠ 2047) : (0 ≤ b_p n → fn_X12_below_ h (UInt64.ofNat n) = some (UInt64.ofNat n, h, 0, 0)) ∧ (b_p n < 0 → fn_X12_below_ h (UInt64.ofNat n) = some (UInt64.ofNat (if b_s n = true ∧ ¬ b_fz n then b_i true (b_fw n + 1) else b_i (b_s n && decide (b_fw n ≠ 0)) (b_fw n)), h, 0, 0)) := by
  have c1 := k_dcmp hn (show 4841369599423283200 < 2 ^ 64 by decide) f (by decide +kernel)
  have c2 := k_dcmp hn (show 14064741636278059008 < 2 ^ 64 by decide) f (by decide +kernel)
  rw [m_V52] at c1
  rw [m_Vn52] at c2
  obtain ⟨k1, k2⟩ := b_M_52 n
  have hV := b_V_M n
  unfold FP.Core.signed at hV
  unfold fn_X12_below_ fn_X12_below__b17
  rw [m_neg, show (4841369599423283200 : UInt64) = UInt64.ofNat 4841369599423283200 from rfl, c1, c2]
  simp only [cv_ge, cv_gt]
  have hB : 0 < 2 ^ 52 * 2 ^ 1074 := Nat.mul_pos (by decide) (Nat.two_pow_pos _)
  generalize 2 ^ 52 * 2 ^ 1074 = B at k1 k2 hB ⊢
  refine ⟨fun hp => ?_, fun hp => ?_⟩
  · have := k1 hp
    by_cases g : (B : Int) ≤ b_V n
    · rw [if_pos g]
      rfl
    · rw [if_neg g, if_neg]
      · rfl
      · split at hV <;> omega
  · have := k2 hp
    rw [if_neg (by split at hV <;> omega), if_pos (by split at hV <;> omega), zo_s]
    clear hV k1 k2 c1 c2 hB this
    have hb := b_p_ge n
    have hw := b_fw_le hp
    have ec : FP.d2l (UInt64.ofNat n) = Int64.ofInt (FP.Core.signed (b_s n) (b_fw n)) := by
      rw [d2l_fin hn f, show (b_p n).toNat = 0 by omega, Nat.pow_zero, Nat.mul_one, show b_D n / 2 ^ (-b_p n).toNat = b_fw n from rfl, d2l_in _ (by omega), l_sg]
    have el : FP.l2d (Int64.ofInt (FP.Core.signed (b_s n) (b_fw n))) = UInt64.ofNat (b_i (b_s n && decide (b_fw n ≠ 0)) (b_fw n)) := by
      show UInt64.ofNat (FP.Core.encode FP.Core.b64 (FP.Core.round FP.Core.b64 (FP.Core.ofInt (Int64.ofInt _).toInt))) = _
      rw [Int64.toInt_ofInt_of_le (by unfold FP.Core.signed; split <;> omega) (by unfold FP.Core.signed; split <;> omega)]
      have e1 : FP.Core.ofInt (FP.Core.signed (b_s n) (b_fw n)) = .fin (b_s n && decide (b_fw n ≠ 0)) (b_fw n) 0 := by
        unfold FP.Core.ofInt FP.Core.signed
        cases b_s n
        · rw [if_neg (by decide), decide_eq_false (by omega)]
          rfl
        · rw [if_pos rfl, show (-(b_fw n : Int)).natAbs = b_fw n by omega, Bool.true_and]
          congr 1
          apply decide_eq_decide.mpr
          omega
      rw [e1]
      rfl
    rw [ec, el]
    have ok := b_i_ok (b_s n && decide (b_fw n ≠ 0)) (show b_fw n < 2 ^ 53 by omega)
    obtain ⟨o1, o2, o3, k, hk, o4, o5⟩ := ok
    rw [k_dcmp o1 hn o2 f, b_i_V _ (show b_fw n < 2 ^ 53 by omega)]
    simp only [cv_le]
    have hD := Nat.div_add_mod (b_D n) (2 ^ (-b_p n).toNat)
    have eM : b_V n = FP.Core.signed (b_s n) (b_fw n * 2 ^ 1074 + b_D n % 2 ^ (-b_p n).toNat * 2 ^ (1074 - (-b_p n).toNat)) := by
      unfold b_V
      congr 1
      conv => lhs; lhs; rw [← hD]
      rw [show (b_p n + 1074).toNat = 1074 - (-b_p n).toNat by omega, Nat.add_mul, Nat.mul_comm (2 ^ (-b_p n).toNat), Nat.mul_assoc, ← Nat.pow_add, show (-b_p n).toNat + (1074 - (-b_p n).toNat) = 1074 by omega]
      rfl
    have hR : b_fz n ↔ b_D n % 2 ^ (-b_p n).toNat * 2 ^ (1074 - (-b_p n).toNat) = 0 := by
      unfold b_fz
      rw [Nat.mul_eq_zero]
      exact ⟨fun z => Or.inl z, fun z => z.resolve_right (Nat.ne_of_gt (Nat.two_pow_pos _))⟩
    rw [eM]
    generalize b_D n % 2 ^ (-b_p n).toNat * 2 ^ (1074 - (-b_p n).toNat) = R at hR
    have e0 : b_fw n = 0 → b_fw n * 2 ^ 1074 = 0 := fun z => by rw [z, Nat.zero_mul]
    have hX : FP.Core.signed (b_s n && decide (b_fw n ≠ 0)) (b_fw n * 2 ^ 1074) = FP.Core.signed (b_s n) (b_fw n * 2 ^ 1074) := by
      by_cases z : b_fw n = 0
      · rw [e0 z]
        unfold FP.Core.signed
        split <;> split <;> rfl
      · rw [decide_eq_true z, Bool.and_true]
    rw [hX]
    generalize b_fw n * 2 ^ 1074 = Y
    by_cases q : b_s n = true ∧ ¬ b_fz n
    · have hR' : R ≠ 0 := fun z => q.2 (hR.mpr z)
      rw [if_pos q, if_neg (by unfold FP.Core.signed; rw [if_pos q.1, if_pos q.1]; omega)]
      have e2 : FP.dsub (UInt64.ofNat (b_i (b_s n && decide (b_fw n ≠ 0)) (b_fw n))) FP.dconst1 = UInt64.ofNat (b_i true (b_fw n + 1)) := by
        rw [show FP.dconst1 = UInt64.ofNat 4607182418800017408 from rfl, m_sub o1 (by decide), b_dec_fin o2, o3, o4, o5, m_1]
        show UInt64.ofNat (FP.Core.encode FP.Core.b64 (FP.Core.round FP.Core.b64 (FP.Core.exactSum _ (.fin true (2 ^ 52) (-52))))) = _
        rw [x_minus1 (by
          by_cases z : b_fw n = 0
          · exact Or.inl z
          · right
            rw [decide_eq_true z, q.1]
            rfl) hk]
        show UInt64.ofNat (FP.Core.encode FP.Core.b64 (FP.Core.roundRatio FP.Core.b64 true _ 1 _)) = _
        have e3 := r_same FP.Core.b64 true (b_fw n + 1) (max k 52) 0
        rw [Int.zero_sub] at e3
        rw [e3]
        rfl
      rw [e2]
      have hd := r_ratio_fit FP.Core.b64 true (by decide) (by decide) (b_fw n + 1) 0
      obtain ⟨y1, y2, y3⟩ := b64_dec hd
      have n2 := n64_ok y2 y3
      rw [show mz_n64 (UInt64.ofNat (b_i true (b_fw n + 1))) = true from n2, zc_t, zr_e]
    · rw [if_neg q, if_pos, zr_e]
      unfold FP.Core.signed
      by_cases z : b_s n = true
      · have : R = 0 := hR.mp (by
          by_cases y : b_fz n
          · exact y
          · exact absurd ⟨z, y⟩ q)
        rw [if_pos z, if_pos z, this]
        omega
      · rw [if_neg z, if_neg z]
        omega
/-- both wholes below: the same but for the sign of a zero -/
theorem k_both (h h' : mz_H) {n : Nat} (hn : n < 2 ^ 64) (f : b_E n ≠ 2047) : ∃ F L, F < 2 ^ 64 ∧ L < 2 ^ 64 ∧ b_E F ≠ 2047 ∧ b_E L ≠ 2047 ∧ fn_X3_floorOf h (lN n) = some (lN F, h, 0, 0) ∧ fn_X12_below_ h' (UInt64.ofNat n) = some (UInt64.ofNat L, h', 0, 0) ∧
    (F = L ∨ (n = 2 ^ 63 ∧ F = 2 ^ 63 ∧ L = 0)) ∧ ((0 ≤ b_p n ∧ F = n) ∨ (b_p n < 0 ∧ b_p F ≤ 0)) := by
  obtain ⟨f1, f2⟩ := k_floor h hn
  obtain ⟨g1, g2⟩ := k_belowD h' hn f
  by_cases hp : 0 ≤ b_p n
  · exact ⟨n, n, hn, hn, f, f, f1 hp, g1 hp, Or.inl rfl, Or.inl ⟨hp, rfl⟩⟩
  · have hp' : b_p n < 0 := by omega
    have hw := b_fw_le hp'
    obtain ⟨x, hx, hz, f3⟩ := f2 hp'
    have g3 := g2 hp'
    have hle : ∀ s W, W ≤ 2 ^ 52 → b_p (b_i s W) ≤ 0 := fun s W hW => by
      obtain ⟨-, -, -, k, -, e, -⟩ := b_i_ok s (show W < 2 ^ 53 by omega)
      rw [e]
      omega
    by_cases q : b_s n = true ∧ ¬ b_fz n
    · have hx0 : x = 0 := hx.resolve_right (fun z => q.2 (hz.mp z))
      rw [if_pos q] at g3
      rw [if_pos ⟨q.1, hx0⟩, q.1] at f3
      obtain ⟨o1, o2, -, -⟩ := b_i_ok true (show b_fw n + 1 < 2 ^ 53 by omega)
      exact ⟨_, _, o1, o1, o2, o2, f3, g3, Or.inl rfl, Or.inr ⟨hp', hle _ _ (by omega)⟩⟩
    · rw [if_neg q] at g3
      rw [if_neg (fun z => q ⟨z.1, fun y => by
        have := hz.mpr y
        rw [z.2] at this
        exact absurd this (by decide)⟩)] at f3
      obtain ⟨o1, o2, -, -⟩ := b_i_ok (b_s n) (show b_fw n < 2 ^ 53 by omega)
      obtain ⟨u1, u2, -, -⟩ := b_i_ok (b_s n && decide (b_fw n ≠ 0)) (show b_fw n < 2 ^ 53 by omega)
      refine ⟨_, _, o1, u1, o2, u2, f3, g3, ?_, Or.inr ⟨hp', hle _ _ (by omega)⟩⟩
      by_cases s : b_s n = true
      · by_cases z : b_fw n = 0
        · right
          have hf : b_fz n := by
            by_cases y : b_fz n
            · exact y
            · exact absurd ⟨s, y⟩ q
          have hD : b_D n = 0 := by
            have := Nat.div_add_mod (b_D n) (2 ^ (-b_p n).toNat)
            unfold b_fw at z
            unfold b_fz at hf
            rw [z, hf] at this
            omega
          have en : n = 2 ^ 63 := by
            by_cases y : n = 2 ^ 63
            · exact y
            · exact absurd ⟨s, hD⟩ (fo_nz hn y)
          rw [z, s]
          exact ⟨en, by decide +kernel, by decide +kernel⟩
        · left
          rw [decide_eq_true z, Bool.and_true]
      · left
        have s' : b_s n = false := by
          revert s
          cases b_s n <;> decide
        rw [s', Bool.false_and]

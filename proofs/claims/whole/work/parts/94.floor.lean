/-! numbers: negated, the whole below, the cast, the place -/
def b_ng (n : Nat) : Nat := n ^^^ 2 ^ 63
theorem b_ng_ok {n : Nat} (hn : n < 2 ^ 64) : b_ng n < 2 ^ 64 ∧ b_E (b_ng n) = b_E n ∧ b_T (b_ng n) = b_T n ∧ b_s (b_ng n) = !b_s n := by
  have h1 : b_ng n < 2 ^ 64 := Nat.xor_lt_two_pow hn (by decide)
  have h2 : b_s (b_ng n) = (b_s n != b_s (2 ^ 63)) := b_s_xor n (2 ^ 63)
  have h3 : (n ^^^ 2 ^ 63) % 2 ^ 63 = n % 2 ^ 63 := by
    rw [Nat.xor_mod_two_pow, Nat.mod_self, Nat.xor_zero]
  have h3' : b_ng n % 2 ^ 63 = n % 2 ^ 63 := h3
  have h4 : b_s (2 ^ 63) = true := by decide
  rw [h4] at h2
  refine ⟨h1, ?_, ?_, ?_⟩
  · generalize b_ng n = m at h3'
    unfold b_E
    omega
  · generalize b_ng n = m at h3'
    unfold b_T
    omega
  · rw [h2]
    cases b_s n <;> rfl
theorem b_ng_dec {n : Nat} (hn : n < 2 ^ 64) : FP.Core.decode FP.Core.b64 (b_ng n) = FP.Core.negate (FP.Core.decode FP.Core.b64 n) := by
  obtain ⟨-, e1, e2, e3⟩ := b_ng_ok hn
  rw [b_dec, b_dec, e1, e2, e3]
  split
  · split
    · rfl
    · rfl
  · split
    · rfl
    · rfl
theorem b_ng_nan {n : Nat} (hn : n < 2 ^ 64) : b_nan (b_ng n) ↔ b_nan n := by
  obtain ⟨-, e1, e2, -⟩ := b_ng_ok hn
  unfold b_nan
  rw [e1, e2]
theorem k_neg (h : mz_H) {n : Nat} (hn : n < 2 ^ 64) : fn_X3_negated h (lN n) = some (lN (b_ng n), h, 0, 0) := by
  unfold fn_X3_negated
  rw [show (-9223372036854775808 : Int64) = lN (2 ^ 63) from rfl, u_xor hn (by decide), zr_e]
  rfl
theorem k_sub (h : mz_H) {a b : Nat} (ha : a < 2 ^ 64) (hb : b < 2 ^ 64) (fa : ¬ b_nan a) (fb : ¬ b_nan b) (ff : b_E a ≠ 2047 ∨ b_E b ≠ 2047) : ∃ P s, r_fit FP.Core.b64 s (FP.Core.round FP.Core.b64 (FP.Core.exactSum (FP.Core.decode FP.Core.b64 a) (FP.Core.negate (FP.Core.decode FP.Core.b64 b)))) ∧ P = FP.Core.encode FP.Core.b64 (FP.Core.round FP.Core.b64 (FP.Core.exactSum (FP.Core.decode FP.Core.b64 a) (FP.Core.negate (FP.Core.decode FP.Core.b64 b)))) ∧ P < 2 ^ 64 ∧ ¬ b_nan P ∧ fn_X3_sum h (lN a) (lN (b_ng b)) = some (lN P, h, 0, 0) ∧ FP.dsub (UInt64.ofNat a) (UInt64.ofNat b) = UInt64.ofNat P ∧ mz_n64 (UInt64.ofNat P) = true := by
  obtain ⟨g1, g2, -, -⟩ := b_ng_ok hb
  obtain ⟨s, hf, hs⟩ := k_sum h ha g1 fa (fun z => fb ((b_ng_nan hb).mp z)) (by rw [g2]; exact ff)
  rw [b_ng_dec hb] at hf hs
  obtain ⟨y1, y2, y3⟩ := b64_dec hf
  exact ⟨_, s, hf, rfl, y2, fo_nn hf, hs, m_sub ha hb, n64_ok y2 y3⟩
theorem x_int (s : Bool) {W : Nat} (h0 : W ≠ 0) (hW : W < 2 ^ 53) : FP.Core.roundRatio FP.Core.b64 s W 1 0 = .fin s (W * 2 ^ (53 - b_len W)) (-((53 - b_len W : Nat) : Int)) := by
  obtain ⟨n1, n2⟩ := b_norm h0 hW
  have e := r_same FP.Core.b64 s W (53 - b_len W) 0
  rw [Int.zero_sub] at e
  rw [← e]
  exact r_fits FP.Core.b64 s (by decide) n2 (by rw [b64_qmin]; omega) (by rw [b64_qmax]; omega) (Or.inr n1)
/-- a whole number -/
def b_i (s : Bool) (W : Nat) : Nat := FP.Core.encode FP.Core.b64 (FP.Core.roundRatio FP.Core.b64 s W 1 0)
theorem b_i_ok (s : Bool) {W : Nat} (hW : W < 2 ^ 53) : b_i s W < 2 ^ 64 ∧ b_E (b_i s W) ≠ 2047 ∧ b_s (b_i s W) = s ∧ ∃ k : Nat, k ≤ 1074 ∧ b_p (b_i s W) = -(k : Int) ∧ b_D (b_i s W) = W * 2 ^ k := by
  have hd := r_ratio_fit FP.Core.b64 s (by decide) (by decide) W 0
  have hf := fo_fin hd (fo_ninf s (by omega))
  obtain ⟨y1, y2, y3⟩ := b64_dec hd
  refine ⟨y2, hf, ?_⟩
  rw [b_dec_fin hf] at y1
  by_cases z : W = 0
  · subst z
    have y4 : FP.Core.Datum.fin (b_s (b_i s 0)) (b_D (b_i s 0)) (b_p (b_i s 0)) = .fin s 0 FP.Core.b64.qmin := y1
    rw [b64_qmin] at y4
    injection y4 with e1 e2 e3
    exact ⟨e1, 1074, Nat.le_refl _, e3, by rw [e2, Nat.zero_mul]⟩
  · rw [x_int s z hW] at y1
    unfold b_i
    rw [x_int s z hW]
    injection y1 with e1 e2 e3
    exact ⟨e1, 53 - b_len W, by omega, e3, e2⟩
theorem b_i_V (s : Bool) {W : Nat} (hW : W < 2 ^ 53) : b_V (b_i s W) = FP.Core.signed s (W * 2 ^ 1074) := by
  obtain ⟨-, -, e1, k, hk, e2, e3⟩ := b_i_ok s hW
  unfold b_V
  rw [e1, e2, e3, show (-(k : Int) + 1074).toNat = 1074 - k by omega, Nat.mul_assoc, ← Nat.pow_add, show k + (1074 - k) = 1074 by omega]
theorem l_sg (s : Bool) (v : Nat) : Int64.ofInt (FP.Core.signed s v) = if s then -lN v else lN v := by
  unfold FP.Core.signed
  cases s
  · exact Int64.ofInt_eq_ofNat
  · show Int64.ofInt (-(v : Int)) = -lN v
    rw [Int64.ofInt_neg, Int64.ofInt_eq_ofNat]
    rfl
theorem b_s_f {n : Nat} (hn : n < 2 ^ 64) : (0 ≤ lg_cmp (lN n) 0) ↔ b_s n = false := by
  rw [u_ge0 hn]
  have := b_s_iff hn
  cases hs : b_s n
  · rw [hs] at this
    constructor
    · intro _
      rfl
    · intro _
      rcases Nat.lt_or_ge n (2 ^ 63) with z | z
      · exact z
      · exact absurd (this.mpr z) (by decide)
  · rw [hs] at this
    constructor
    · intro z
      have := this.mp rfl
      omega
    · intro z
      cases z
theorem d2l_fin {n : Nat} (hn : n < 2 ^ 64) (f : b_E n ≠ 2047) : FP.d2l (UInt64.ofNat n) = Int64.ofInt (max (-2 ^ 63) (min (2 ^ 63 - 1) (FP.Core.signed (b_s n) (b_D n * 2 ^ (b_p n).toNat / 2 ^ (-b_p n).toNat)))) := by
  show Int64.ofInt (FP.Core.toInt (-2 ^ 63) (2 ^ 63 - 1) (FP.Core.decode FP.Core.b64 (UInt64.ofNat n).toNat)) = _
  rw [m_dec hn, b_dec_fin f]
  rfl
theorem d2l_in (s : Bool) {v : Nat} (hv : v < 2 ^ 63) : Int64.ofInt (max (-2 ^ 63) (min (2 ^ 63 - 1) (FP.Core.signed s v))) = if s then -lN v else lN v := by
  rw [← l_sg]
  congr 1
  unfold FP.Core.signed
  split <;> omega
theorem k_cast (h : mz_H) {n : Nat} (hn : n < 2 ^ 64) (f : b_E n ≠ 2047) : fn_X3_wholeOf h (lN n) = some (FP.d2l (UInt64.ofNat n), h, 0, 0) := by
  have hb := b_p_ge n
  have l := b_D_lt n
  have b57 : ∀ v, v < 2 ^ 63 → fn_X3_wholeOf_b57 h (lN n) (lN v) = some (if b_s n then -lN v else lN v, h, 0, 0) := by
    intro v _
    unfold fn_X3_wholeOf_b57
    by_cases q : b_s n = false
    · rw [if_pos ((b_s_f hn).mpr q), q, zr_e]
      rfl
    · rw [if_neg (fun z => q ((b_s_f hn).mp z)), if_pos (by revert q; cases b_s n <;> decide), zr_e]
  rw [d2l_fin hn f]
  unfold fn_X3_wholeOf
  rw [k_power h hn, zl_0, show (10 : Int32) = zI 10 from rfl, show (0 : Int32) = zI 0 from rfl, show (-64 : Int32) = zI (-64) from rfl]
  by_cases c1 : b_p n ≤ 10
  · rw [if_pos ((zI_le (by omega) (by omega) (by omega) (by omega)).mpr c1)]
    by_cases c2 : b_p n < 0
    · rw [if_pos ((zI_lt (by omega) (by omega) (by omega) (by omega)).mpr c2), show (b_p n).toNat = 0 by omega, Nat.pow_zero, Nat.mul_one]
      have hv : b_D n / 2 ^ (-b_p n).toNat < 2 ^ 63 := Nat.lt_of_le_of_lt (Nat.div_le_self _ _) (by omega)
      by_cases c3 : b_p n ≤ -64
      · have e0 : b_D n / 2 ^ (-b_p n).toNat = 0 := by
          apply Nat.div_eq_of_lt
          have := Nat.pow_le_pow_right (show 0 < 2 by omega) (show 53 ≤ (-b_p n).toNat by omega)
          omega
        rw [if_pos ((zI_le (by omega) (by omega) (by omega) (by omega)).mpr c3), e0, d2l_in _ (by decide)]
        exact b57 0 (by decide)
      · rw [if_neg (fun z => c3 ((zI_le (by omega) (by omega) (by omega) (by omega)).mp z)), k_digits h hn, zl_0, zI_neg, show -b_p n = ((-b_p n).toNat : Int) by omega, zI_n, u_shr (by omega) (by omega)]
        rw [show ((-b_p n).toNat : Int).toNat = (-b_p n).toNat by omega, d2l_in _ hv]
        exact b57 _ hv
    · rw [if_neg (fun z => c2 ((zI_lt (by omega) (by omega) (by omega) (by omega)).mp z)), k_digits h hn, zl_0, show (-b_p n).toNat = 0 by omega, Nat.pow_zero, Nat.div_one]
      have hv : b_D n * 2 ^ (b_p n).toNat < 2 ^ 63 := by
        have h1 := Nat.mul_lt_mul_of_pos_right l (Nat.two_pow_pos (b_p n).toNat)
        have h2 := Nat.pow_le_pow_right (show 0 < 2 by omega) (show (b_p n).toNat ≤ 10 by omega)
        have h3 := Nat.mul_le_mul_left (2 ^ 53) h2
        omega
      have e : zI (b_p n) = nI (b_p n).toNat := by
        rw [← zI_n]
        congr 1
        omega
      rw [e, u_shl (by omega), d2l_in _ hv]
      exact b57 _ hv
  · rw [if_neg (fun z => c1 ((zI_le (by omega) (by omega) (by omega) (by omega)).mp z)), show (-b_p n).toNat = 0 by omega, Nat.pow_zero, Nat.div_one]
    have l2 : 2 ^ 52 ≤ b_D n := by
      unfold b_p at c1
      unfold b_D
      rw [if_neg (by omega)]
      omega
    have hv : 2 ^ 63 ≤ b_D n * 2 ^ (b_p n).toNat := by
      have h2 := Nat.pow_le_pow_right (show 0 < 2 by omega) (show 11 ≤ (b_p n).toNat by omega)
      have h3 := Nat.mul_le_mul l2 h2
      omega
    generalize b_D n * 2 ^ (b_p n).toNat = X at hv
    by_cases q : b_s n = false
    · rw [show zI 0 = (0 : Int32) from rfl, if_pos ((b_s_f hn).mpr q), q, zr_e]
      unfold FP.Core.signed
      rw [if_neg (by decide), show max (-2 ^ 63) (min (2 ^ 63 - 1) (X : Int)) = 2 ^ 63 - 1 by omega]
      rfl
    · have q' : b_s n = true := by
        revert q
        cases b_s n <;> decide
      rw [show zI 0 = (0 : Int32) from rfl, if_neg (fun z => q ((b_s_f hn).mp z)), q', zr_e]
      unfold FP.Core.signed
      rw [if_pos rfl, show max (-2 ^ 63) (min (2 ^ 63 - 1) (-(X : Int))) = -2 ^ 63 by omega]
      rfl
theorem k_fmod (h : mz_H) (x : Int64) {len : Nat} (h1 : 1 ≤ len) (h2 : len < 1000) : ∃ i, i < len ∧ fn_J_floorMod h x (lN len) = some (lN i, h, 0, 0) ∧ ((0 ≤ lg_cmp (x - x / lN len * lN len) 0 ∧ x - x / lN len * lN len = lN i) ∨ (¬ 0 ≤ lg_cmp (x - x / lN len * lN len) 0 ∧ x - x / lN len * lN len + lN len = lN i)) := by
  obtain ⟨a, ha, rfl⟩ := u_all x
  have b1 : -2 ^ 63 ≤ (lN a).toInt ∧ (lN a).toInt < 2 ^ 63 := by
    rw [u_toInt ha]
    split <;> omega
  have hs : b_s a = true ↔ (lN a).toInt < 0 := by
    rw [b_s_iff ha, u_toInt ha]
    split <;> omega
  have eX : lN a = Int64.ofInt (lN a).toInt := (Int64.ofInt_toInt _).symm
  have eL : lN len = Int64.ofInt (len : Int) := Int64.ofInt_eq_ofNat.symm
  have ev : lN a - lN a / lN len * lN len = Int64.ofInt ((lN a).toInt.tmod len) := by
    rw [Int.tmod_def, Int64.ofInt_sub, Int64.ofInt_mul, Int64.ofInt_tdiv (by rw [Int64.toInt_minValue]; exact b1.1) (by rw [Int64.toInt_maxValue]; have := b1.2; omega) (by rw [Int64.toInt_minValue]; omega) (by rw [Int64.toInt_maxValue]; omega), ← eX, ← eL, Int64.mul_comm]
  have t1 := Int.tmod_lt_of_pos (lN a).toInt (show (0 : Int) < len by omega)
  have t2 := Int.lt_tmod_of_pos (lN a).toInt (show (0 : Int) < len by omega)
  have t3 : 0 ≤ (lN a).toInt → 0 ≤ (lN a).toInt.tmod len := Int.tmod_nonneg _
  have t4 : (lN a).toInt < 0 → (lN a).toInt.tmod len ≤ 0 := fun z => by
    have := Int.tmod_nonneg (len : Int) (show 0 ≤ -(lN a).toInt by omega)
    rw [Int.neg_tmod] at this
    omega
  have hx := u_xs ha (show len < 2 ^ 64 by omega)
  have hbl : b_s len = false := by
    cases z : b_s len
    · rfl
    · have := (b_s_iff (show len < 2 ^ 64 by omega)).mp z
      omega
  have hne : ¬ lN len = 0 := fun z => by
    have := (u_inj (show len < 2 ^ 64 by omega) (show 0 < 2 ^ 64 by decide)).mp z
    omega
  unfold fn_J_floorMod
  rw [decide_eq_true hne, zc_t, zo_s, ev]
  generalize (lN a).toInt.tmod len = r at t1 t2 t3 t4
  have er : (Int64.ofInt r).toInt = r := Int64.toInt_ofInt_of_le (by omega) (by omega)
  have c0 : 0 ≤ lg_cmp (Int64.ofInt r) 0 ↔ 0 ≤ r := by
    rw [lg_cmp_ge, Int64.le_iff_toInt_le, er]
    rfl
  have cz : lg_cmp (Int64.ofInt r) 0 = 0 ↔ r = 0 := by
    rw [lg_cmp_eq, ← Int64.toInt_inj, er]
    rfl
  have cx : 0 ≤ lg_cmp (lN a ^^^ lN len) 0 ↔ b_s a = false := by
    rw [← Int32.not_lt, hx, hbl]
    cases b_s a <;> decide
  have hi : 0 ≤ r → Int64.ofInt r = lN r.toNat := fun z => by
    show _ = Int64.ofNat _
    rw [← Int64.ofInt_eq_ofNat]
    congr 1
    omega
  have hi2 : r < 0 → Int64.ofInt r + lN len = lN (r + len).toNat := fun z => by
    show _ = Int64.ofNat _
    rw [← Int64.ofInt_eq_ofNat, eL, ← Int64.ofInt_add]
    congr 1
    omega
  by_cases g : 0 ≤ r
  · refine ⟨r.toNat, by omega, ?_, Or.inl ⟨c0.mpr g, hi g⟩⟩
    by_cases q : b_s a = false
    · rw [if_pos (cx.mpr q), hi g, zr_e]
    · have q' : b_s a = true := by
        revert q
        cases b_s a <;> decide
      have := t4 (hs.mp q')
      rw [if_neg (fun z => q (cx.mp z)), if_pos (cz.mpr (by omega)), hi g, zr_e]
  · refine ⟨(r + len).toNat, by omega, ?_, Or.inr ⟨fun z => g (c0.mp z), hi2 (by omega)⟩⟩
    have q : ¬ b_s a = false := fun z => g (t3 (by
      rcases Int.lt_or_le (lN a).toInt 0 with y | y
      · have := hs.mpr y
        rw [z] at this
        cases this
      · exact y))
    rw [if_neg (fun z => q (cx.mp z)), if_neg (fun z => g (by have := cz.mp z; omega)), hi2 (by omega), zr_e]

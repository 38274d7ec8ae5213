/-! numbers: the bits of a long as a whole number -/
theorem u_i {x y : Int64} (h : x.toUInt64 = y.toUInt64) : x = y := by
  cases x
  cases y
  exact congrArg Int64.ofUInt64 h
theorem u_nat (n : Nat) : (lN n).toUInt64 = UInt64.ofNat n := rfl
theorem u_inj {a b : Nat} (ha : a < 2 ^ 64) (hb : b < 2 ^ 64) : lN a = lN b ↔ a = b := by
  refine ⟨fun e => ?_, fun e => e ▸ rfl⟩
  have e2 := congrArg (fun x : Int64 => x.toUInt64.toNat) e
  simp only [u_nat, UInt64.toNat_ofNat'] at e2
  omega
theorem u_all (x : Int64) : ∃ n, n < 2 ^ 64 ∧ x = lN n :=
  ⟨x.toUInt64.toNat, x.toUInt64.toNat_lt, by
    apply u_i
    rw [u_nat, UInt64.ofNat_toNat]⟩
theorem u_mod (n : Nat) : lN (n % 2 ^ 64) = lN n := by
  apply u_i
  rw [u_nat, u_nat]
  apply UInt64.toNat_inj.mp
  simp only [UInt64.toNat_ofNat']
  omega
theorem u_and {a b : Nat} (ha : a < 2 ^ 64) (hb : b < 2 ^ 64) : lN a &&& lN b = lN (a &&& b) := by
  apply u_i
  show (lN a).toUInt64 &&& (lN b).toUInt64 = _
  rw [u_nat, u_nat, u_nat]
  apply UInt64.toNat_inj.mp
  rw [UInt64.toNat_and, UInt64.toNat_ofNat', UInt64.toNat_ofNat', UInt64.toNat_ofNat', Nat.mod_eq_of_lt ha, Nat.mod_eq_of_lt hb, Nat.mod_eq_of_lt (Nat.lt_of_le_of_lt Nat.and_le_left ha)]
theorem u_or {a b : Nat} (ha : a < 2 ^ 64) (hb : b < 2 ^ 64) : lN a ||| lN b = lN (a ||| b) := by
  apply u_i
  show (lN a).toUInt64 ||| (lN b).toUInt64 = _
  rw [u_nat, u_nat, u_nat]
  apply UInt64.toNat_inj.mp
  rw [UInt64.toNat_or, UInt64.toNat_ofNat', UInt64.toNat_ofNat', UInt64.toNat_ofNat', Nat.mod_eq_of_lt ha, Nat.mod_eq_of_lt hb, Nat.mod_eq_of_lt (Nat.or_lt_two_pow ha hb)]
theorem u_sh {k : Nat} (hk : k < 64) : ((nI k).toInt64.toUInt64 &&& Int64.toUInt64 63) = UInt64.ofNat k := by
  have e : (nI k).toInt64 = lN k := by
    apply Int64.toInt_inj.mp
    rw [Int32.toInt_toInt64, lN_toInt (by omega)]
    show (Int32.ofNat k).toInt = _
    rw [Int32.toInt_ofNat_of_lt (by omega)]
  rw [e, u_nat]
  apply UInt64.toNat_inj.mp
  rw [UInt64.toNat_and, UInt64.toNat_ofNat']
  show k % 2 ^ 64 &&& (2 ^ 6 - 1) = _
  rw [Nat.and_two_pow_sub_one_eq_mod]
  omega
theorem u_shr {n k : Nat} (hn : n < 2 ^ 64) (hk : k < 64) : mz_ushr (lN n) (nI k) = lN (n / 2 ^ k) := by
  unfold mz_ushr
  rw [u_sh hk]
  apply u_i
  show (lN n).toUInt64 >>> UInt64.ofNat k = _
  rw [u_nat, u_nat]
  apply UInt64.toNat_inj.mp
  rw [UInt64.toNat_shiftRight, UInt64.toNat_ofNat', UInt64.toNat_ofNat', UInt64.toNat_ofNat', Nat.mod_eq_of_lt hn, Nat.mod_eq_of_lt (Nat.lt_of_le_of_lt (Nat.div_le_self _ _) hn), Nat.shiftRight_eq_div_pow, show k % 2 ^ 64 % 64 = k by omega]
theorem u_63 (k : Fin 64) : (BitVec.ofNat 64 k.val).smod 64 = BitVec.ofNat 64 k.val := by
  revert k
  decide
theorem u_shl {n k : Nat} (hk : k < 64) : mz_shl (lN n) (nI k) = lN (n * 2 ^ k) := by
  have e : (nI k).toInt64 &&& 63 = lN k := by
    apply u_i
    exact u_sh hk
  unfold mz_shl
  rw [e]
  apply Int64.toBitVec_inj.mp
  show BitVec.ofNat 64 n <<< (BitVec.ofNat 64 k).smod 64 = BitVec.ofNat 64 (n * 2 ^ k)
  rw [u_63 ⟨k, hk⟩]
  apply BitVec.eq_of_toNat_eq
  rw [BitVec.shiftLeft_eq', BitVec.toNat_shiftLeft]
  simp only [BitVec.toNat_ofNat, Nat.shiftLeft_eq]
  rw [show k % 2 ^ 64 = k by omega, Nat.mod_mul_mod]
theorem u_cmp0 {a : Nat} (ha : a < 2 ^ 64) : lg_cmp (lN a) 0 = 0 ↔ a = 0 := by
  rw [show (0 : Int64) = lN 0 from rfl]
  unfold lg_cmp
  by_cases h : lN a = lN 0
  · rw [h]
    simp only [gt_iff_lt, Int64.lt_irrefl, if_false, if_true]
    exact ⟨fun _ => (u_inj ha (by omega)).mp h, fun _ => trivial⟩
  · have : ¬ a = 0 := fun e => h (e ▸ rfl)
    by_cases h2 : lN a > lN 0
    · rw [if_pos h2]
      exact ⟨fun e => absurd e (by decide), fun e => absurd e this⟩
    · rw [if_neg h2, if_neg h]
      exact ⟨fun e => absurd e (by decide), fun e => absurd e this⟩
theorem u_toInt {n : Nat} (hn : n < 2 ^ 64) : (lN n).toInt = if n < 2 ^ 63 then (n : Int) else (n : Int) - 2 ^ 64 := by
  show (Int64.ofNat n).toInt = _
  rw [Int64.toInt_ofNat']
  rw [Int.bmod_def]
  simp only [Int64.size]
  split <;> split <;> omega
theorem u_ge0 {n : Nat} (hn : n < 2 ^ 64) : 0 ≤ lg_cmp (lN n) 0 ↔ n < 2 ^ 63 := by
  rw [lg_cmp_ge, Int64.le_iff_toInt_le, u_toInt hn]
  show (0 : Int) ≤ _ ↔ _
  split <;> omega
theorem u_cmp {a b : Nat} (ha : a < 2 ^ 64) (hb : b < 2 ^ 64) : lg_cmp (lN a) (lN b) = 0 ↔ a = b := by
  unfold lg_cmp
  by_cases h : lN a = lN b
  · rw [h]
    simp only [gt_iff_lt, Int64.lt_irrefl, if_false, if_true]
    exact ⟨fun _ => (u_inj ha hb).mp h, fun _ => trivial⟩
  · have : ¬ a = b := fun e => h (e ▸ rfl)
    by_cases h2 : lN a > lN b
    · rw [if_pos h2]
      exact ⟨fun e => absurd e (by decide), fun e => absurd e this⟩
    · rw [if_neg h2, if_neg h]
      exact ⟨fun e => absurd e (by decide), fun e => absurd e this⟩
theorem u_le {a b : Nat} (ha : a < 2 ^ 63) (hb : b < 2 ^ 63) : lg_cmp (lN a) (lN b) ≤ 0 ↔ a ≤ b := by
  unfold lg_cmp
  have e : (lN a > lN b) ↔ b < a := by
    rw [gt_iff_lt, Int64.lt_iff_toInt_lt, u_toInt (by omega), u_toInt (by omega), if_pos ha, if_pos hb]
    omega
  by_cases h : b < a
  · rw [if_pos (e.mpr h)]
    exact ⟨fun e => absurd e (by decide), fun e => absurd e (by omega)⟩
  · rw [if_neg (fun q => h (e.mp q))]
    refine ⟨fun _ => by omega, fun _ => ?_⟩
    split <;> decide
theorem u_gt {a b : Nat} (ha : a < 2 ^ 63) (hb : b < 2 ^ 63) : 0 < lg_cmp (lN a) (lN b) ↔ b < a := by
  have e := u_le ha hb
  rw [Int32.lt_iff_toInt_lt]
  rw [Int32.le_iff_toInt_le] at e
  have z : (0 : Int32).toInt = 0 := rfl
  rw [z] at e ⊢
  omega
/-! the length -/
def b_len (n : Nat) : Nat := if n = 0 then 0 else n.log2 + 1
theorem b_len_lt (n : Nat) : n < 2 ^ b_len n := by
  unfold b_len
  split
  · omega
  · exact Nat.lt_log2_self
theorem b_len_le {n : Nat} (h : n ≠ 0) : 2 ^ (b_len n - 1) ≤ n := by
  unfold b_len
  rw [if_neg h]
  exact Nat.log2_self_le h
theorem b_len_pos {n : Nat} (h : n ≠ 0) : 1 ≤ b_len n := by
  unfold b_len
  rw [if_neg h]
  omega
theorem b_len_0 {n : Nat} : b_len n = 0 ↔ n = 0 := by
  unfold b_len
  split <;> omega
theorem b_len_eq {n k : Nat} (h1 : 2 ^ k ≤ n) (h2 : n < 2 ^ (k + 1)) : b_len n = k + 1 := by
  have hn : n ≠ 0 := by
    have := Nat.two_pow_pos k
    omega
  unfold b_len
  rw [if_neg hn, (Nat.log2_eq_iff hn).mpr ⟨h1, h2⟩]
theorem b_len_64 {n k : Nat} (h : n < 2 ^ k) : b_len n ≤ k := by
  by_cases hn : n = 0
  · rw [b_len_0.mpr hn]
    omega
  · have := b_len_le hn
    have h2 : 2 ^ (b_len n - 1) < 2 ^ k := by omega
    have := (Nat.pow_lt_pow_iff_right (show 1 < 2 by omega)).mp h2
    omega
theorem k_len (h : mz_H) {n : Nat} (hn : n < 2 ^ 64) : fn_X3_lengthOf h (lN n) = some (nI (b_len n), h, 0, 0) := by
  have go : ∀ k f, k ≤ 64 → k < f → n < 2 ^ k → fn_X3_lengthOf_b3 f h (lN n) (nI k) = some (nI (b_len n), h, 0, 0) := by
    intro k
    induction k with
    | zero =>
      intro f _ hf hk
      obtain ⟨f, rfl⟩ : ∃ g, f = g + 1 := ⟨f - 1, by omega⟩
      have : n = 0 := by omega
      subst this
      rw [fn_X3_lengthOf_b3, if_pos (show nI 0 ≤ 0 by decide)]
      rfl
    | succ k ih =>
      intro f h64 hf hk
      obtain ⟨f, rfl⟩ : ∃ g, f = g + 1 := ⟨f - 1, by omega⟩
      rw [fn_X3_lengthOf_b3, if_neg (show ¬ nI (k + 1) ≤ 0 from fun e => absurd (nI_lt (show 0 < k + 1 by omega) (by omega)) (Int32.not_lt.mpr e)), show nI (k + 1) - 1 = nI k by rw [← nI_1]; exact Int32.add_sub_cancel _ _, u_shr hn (by omega)]
      by_cases q : n / 2 ^ k = 0
      · rw [if_pos ((u_cmp0 (by omega)).mpr q), zo_s, show nI (k + 1) + (-1) = nI k by rw [← nI_1]; rw [← Int32.sub_eq_add_neg]; exact Int32.add_sub_cancel _ _]
        refine ih f (by omega) (by omega) ?_
        rcases Nat.div_eq_zero_iff.mp q with z | z
        · have := Nat.two_pow_pos k
          omega
        · exact z
      · have h2 : 2 ^ k ≤ n := by
          rcases Nat.lt_or_ge n (2 ^ k) with z | z
          · exact absurd (Nat.div_eq_of_lt z) q
          · exact z
        rw [if_neg (fun e => q ((u_cmp0 (Nat.lt_of_le_of_lt (Nat.div_le_self _ _) hn)).mp e)), zr_e, b_len_eq h2 hk]
  exact go 64 1001 (by omega) (by omega) hn
theorem u_lt64 {n k : Nat} (h : n < 2 ^ 64) : n / 2 ^ k < 2 ^ 64 := Nat.lt_of_le_of_lt (Nat.div_le_self _ _) h
/-! without digits -/
theorem near_1 (n : Nat) : FP.Core.nearest n 1 = n := by
  unfold FP.Core.nearest
  rw [Nat.mod_one, Nat.div_one]
  simp
theorem near_big {n k : Nat} (h : 2 * n < 2 ^ k) : FP.Core.nearest n (2 ^ k) = 0 := by
  have e : n % 2 ^ k = n := Nat.mod_eq_of_lt (by omega)
  have e2 : n / 2 ^ k = 0 := Nat.div_eq_of_lt (by omega)
  unfold FP.Core.nearest
  rw [e, e2, if_pos h]
theorem near_tail {n j k : Nat} (hjk : j + k = 64) : n * 2 ^ j % 2 ^ 64 = n % 2 ^ k * 2 ^ j := by
  rw [show (2 : Nat) ^ 64 = 2 ^ k * 2 ^ j by rw [← Nat.pow_add, Nat.add_comm k, hjk]]
  exact Nat.mul_mod_mul_right _ _ _
theorem k_without_b33 (h : mz_H) {n k : Nat} (hn : n < 2 ^ 64) (h1 : 1 ≤ k) (h2 : k ≤ 64) : fn_X3_withoutDigits_b33 h (lN n) (nI k) (lN (n / 2 ^ k)) = some (lN (FP.Core.nearest n (2 ^ k)), h, 0, 0) := by
  have e : (64 : Int32) - nI k = nI (64 - k) := by
    have : nI (64 - k) + nI k = 64 := by
      rw [nI_add, show 64 - k + k = 64 by omega]
      rfl
    rw [← this]
    exact Int32.add_sub_cancel _ _
  obtain ⟨r, hr⟩ : ∃ r, r = n % 2 ^ k := ⟨_, rfl⟩
  have hr1 : r < 2 ^ k := hr ▸ Nat.mod_lt _ (Nat.two_pow_pos k)
  have ev : mz_shl (lN n) (nI (64 - k)) = lN (r * 2 ^ (64 - k)) := by
    rw [u_shl (by omega), ← u_mod, near_tail (k := k) (by omega), hr]
  have p63 : (2 : Nat) ^ 63 = 2 ^ (k - 1) * 2 ^ (64 - k) := by
    rw [← Nat.pow_add, show k - 1 + (64 - k) = 63 by omega]
  have pk : (2 : Nat) ^ k = 2 * 2 ^ (k - 1) := by
    rw [show k = (k - 1) + 1 by omega, Nat.pow_succ]
    simp
    omega
  have hp : 0 < (2 : Nat) ^ (64 - k) := Nat.two_pow_pos _
  have hlt : r * 2 ^ (64 - k) < 2 ^ 64 := by
    have : (2 : Nat) ^ 64 = 2 ^ k * 2 ^ (64 - k) := by
      rw [← Nat.pow_add, show k + (64 - k) = 64 by omega]
    rw [this]
    exact Nat.mul_lt_mul_of_pos_right hr1 hp
  have c1 : r * 2 ^ (64 - k) = 2 ^ 63 ↔ r = 2 ^ (k - 1) := by
    rw [p63]
    exact Nat.mul_right_cancel_iff hp
  have c2 : r * 2 ^ (64 - k) < 2 ^ 63 ↔ r < 2 ^ (k - 1) := by
    rw [p63]
    exact Nat.mul_lt_mul_right hp
  have hq : n / 2 ^ k < 2 ^ 63 := by
    rw [Nat.div_lt_iff_lt_mul (Nat.two_pow_pos k), pk]
    have := Nat.two_pow_pos (k - 1)
    omega
  unfold FP.Core.nearest
  rw [← hr]
  generalize n / 2 ^ k = q at hq
  simp only [fn_X3_withoutDigits_b33, fn_X3_withoutDigits_b56, fn_X3_withoutDigits_b74, fn_X3_withoutDigits_b75, fn_X3_withoutDigits_b95, zo_s, zr_e, e, ev]
  rw [show (-9223372036854775808 : Int64) = lN (2 ^ 63) from rfl]
  have ca : lN q &&& 1 = lN (q % 2) := by
    rw [show (1 : Int64) = lN 1 from rfl, u_and (by omega) (by omega), show (1 : Nat) = 2 ^ 1 - 1 from rfl, Nat.and_two_pow_sub_one_eq_mod]
  rw [ca]
  by_cases g1 : r = 2 ^ (k - 1)
  · rw [if_pos ((u_cmp hlt (by omega)).mpr (c1.mpr g1)), if_neg (show ¬ 2 * r < 2 ^ k by omega), if_neg (show ¬ 2 ^ k < 2 * r by omega)]
    rw [if_neg (fun w => absurd ((u_ge0 hlt).mp w) (by omega)), if_neg (show ¬ (1 : Int32) = 0 by decide), if_pos trivial, if_neg (show ¬ (1 : Int32) = 0 by decide)]
    by_cases g2 : q % 2 = 0
    · rw [if_pos ((u_cmp0 (by omega)).mpr g2), g2]
      rfl
    · rw [if_neg (fun w => g2 ((u_cmp0 (by omega)).mp w)), show q % 2 = 1 by omega, lN_1]
  · rw [if_neg (fun w => g1 (c1.mp ((u_cmp hlt (by omega)).mp w)))]
    by_cases g2 : r < 2 ^ (k - 1)
    · rw [if_pos ((u_ge0 hlt).mpr (c2.mpr g2)), if_pos (show 2 * r < 2 ^ k by omega)]
      simp
    · rw [if_neg (fun w => g2 (c2.mp ((u_ge0 hlt).mp w))), if_neg (show ¬ 2 * r < 2 ^ k by omega), if_pos (show 2 ^ k < 2 * r by omega)]
      simp [lN_1]
theorem k_without (h : mz_H) {n k : Nat} (hn : n < 2 ^ 64) (hk : k < 2 ^ 31) : fn_X3_withoutDigits h (lN n) (nI k) = some (lN (FP.Core.nearest n (2 ^ k)), h, 0, 0) := by
  unfold fn_X3_withoutDigits
  rcases Nat.eq_zero_or_pos k with z | z
  · subst z
    rw [if_pos (show nI 0 ≤ 0 by decide), fn_X3_withoutDigits_b10, if_neg (show ¬ 0 < nI 0 by decide), Nat.pow_zero, near_1]
    rfl
  · rw [if_neg (show ¬ nI k ≤ 0 from fun e => absurd (nI_lt z hk) (Int32.not_lt.mpr e))]
    by_cases q : k ≤ 64
    · rw [if_pos (show nI k ≤ 64 from (nI_le q (by omega) : nI k ≤ nI 64))]
      by_cases w : k = 64
      · subst w
        rw [if_pos (show nI 64 = 64 from rfl)]
        have := k_without_b33 h hn z q
        rw [Nat.div_eq_of_lt hn] at this
        exact this
      · rw [if_neg (show ¬ nI k = 64 from fun e => w ((nI_eq hk (by omega)).mp e)), u_shr hn (by omega)]
        exact k_without_b33 h hn z q
    · rw [if_neg (show ¬ nI k ≤ 64 from fun e => absurd (nI_lt (show 64 < k by omega) hk) (Int32.not_lt.mpr e)), fn_X3_withoutDigits_b10, if_pos (show 0 < nI k from nI_lt z hk), near_big]
      · rfl
      · have := Nat.pow_le_pow_right (show 0 < 2 by omega) (show 65 ≤ k by omega)
        omega

/-! numbers: the class and the machine -/
theorem b64_dec {s : Bool} {d : FP.Core.Datum} (h : r_fit FP.Core.b64 s d) : FP.Core.decode FP.Core.b64 (FP.Core.encode FP.Core.b64 d) = d ∧ FP.Core.encode FP.Core.b64 d < 2 ^ 64 ∧ FP.Core.encode FP.Core.b64 d % 2 ^ 63 ≤ 9218868437227405312 := r_dec FP.Core.b64 (by decide) (by decide) (by decide) h
theorem b32_dec {s : Bool} {d : FP.Core.Datum} (h : r_fit FP.Core.b32 s d) : FP.Core.decode FP.Core.b32 (FP.Core.encode FP.Core.b32 d) = d ∧ FP.Core.encode FP.Core.b32 d < 2 ^ 32 ∧ FP.Core.encode FP.Core.b32 d % 2 ^ 31 ≤ 2139095040 := r_dec FP.Core.b32 (by decide) (by decide) (by decide) h
theorem r_fit_nan {f : FP.Core.Fmt} {s : Bool} {d : FP.Core.Datum} (h : r_fit f s d) : d ≠ .nan := by
  rcases h with rfl | ⟨c, q, rfl, -⟩
  · exact fun e => by cases e
  · exact fun e => by cases e
theorem r_fit_ord {f : FP.Core.Fmt} {s : Bool} {d : FP.Core.Datum} (h : r_fit f s d) : FP.Core.order d d = some .eq := by
  rcases h with rfl | ⟨c, q, rfl, -⟩
  · cases s <;> rfl
  · have e : ∀ x : Int, compare x x = .eq := fun x => by
      show compareOfLessAndEq x x = _
      unfold compareOfLessAndEq
      rw [if_neg (by omega), if_pos rfl]
    show some (compare _ _) = _
    rw [e]
theorem n64_ok {n : Nat} (hn : n < 2 ^ 64) (h : n % 2 ^ 63 ≤ 9218868437227405312) : mz_n64 (UInt64.ofNat n) = true := by
  unfold mz_n64
  apply decide_eq_true
  rw [UInt64.le_iff_toNat_le, UInt64.toNat_and, UInt64.toNat_ofNat', Nat.mod_eq_of_lt hn]
  show n &&& (2 ^ 63 - 1) ≤ 9218868437227405312
  rw [Nat.and_two_pow_sub_one_eq_mod]
  exact h
theorem n32_ok {n : Nat} (hn : n < 2 ^ 32) (h : n % 2 ^ 31 ≤ 2139095040) : mz_n32 (UInt32.ofNat n) = true := by
  unfold mz_n32
  apply decide_eq_true
  rw [UInt32.le_iff_toNat_le, UInt32.toNat_and, UInt32.toNat_ofNat', Nat.mod_eq_of_lt hn]
  show n &&& (2 ^ 31 - 1) ≤ 2139095040
  rw [Nat.and_two_pow_sub_one_eq_mod]
  exact h
theorem k_d2l (h : mz_H) {s : Bool} {d : FP.Core.Datum} (hd : r_fit FP.Core.b64 s d) : fn_J_d2l h (UInt64.ofNat (FP.Core.encode FP.Core.b64 d)) = some (lN (FP.Core.encode FP.Core.b64 d), h, 0, 0) := by
  obtain ⟨e1, e2, e3⟩ := b64_dec hd
  have e : FP.dcmp (UInt64.ofNat (FP.Core.encode FP.Core.b64 d)) (UInt64.ofNat (FP.Core.encode FP.Core.b64 d)) = some .eq := by
    show FP.Core.order (FP.Core.decode FP.Core.b64 (UInt64.ofNat _).toNat) (FP.Core.decode FP.Core.b64 (UInt64.ofNat _).toNat) = _
    rw [UInt64.toNat_ofNat', Nat.mod_eq_of_lt e2, e1, r_fit_ord hd]
  unfold fn_J_d2l fn_J_isNaN
  rw [e, if_pos (show Op.cmpValue (some .eq) .l = 0 from rfl), z_0, zc_t, zr_e, zl_0, if_pos rfl, zr_e]
  rfl
theorem k_f2d {s : Bool} {d : FP.Core.Datum} (hd : r_fit FP.Core.b32 s d) : FP.f2d (UInt32.ofNat (FP.Core.encode FP.Core.b32 d)) = UInt64.ofNat (FP.Core.encode FP.Core.b64 (FP.Core.round FP.Core.b64 d)) := by
  obtain ⟨e1, e2, e3⟩ := b32_dec hd
  have e : (UInt32.ofNat (FP.Core.encode FP.Core.b32 d)).toNat = FP.Core.encode FP.Core.b32 d := by
    rw [UInt32.toNat_ofNat', Nat.mod_eq_of_lt e2]
  unfold FP.f2d
  rw [if_neg]
  · show UInt64.ofNat (FP.Core.encode FP.Core.b64 (FP.Core.round FP.Core.b64 (FP.Core.decode FP.Core.b32 (UInt32.ofNat _).toNat))) = _
    rw [e, e1]
  · show ¬ decide (FP.Core.decode FP.Core.b32 (UInt32.ofNat _).toNat = .nan) = true
    rw [e, e1]
    exact fun z => r_fit_nan hd (of_decide_eq_true z)
theorem k_ofFloat (h : mz_H) {s : Bool} {d : FP.Core.Datum} (hd : r_fit FP.Core.b32 s d) : fn_X12_ofFloat h (UInt32.ofNat (FP.Core.encode FP.Core.b32 d)) = some (lN (FP.Core.encode FP.Core.b64 (FP.Core.round FP.Core.b64 d)), h, 0, 0) := by
  have hr : r_fit FP.Core.b64 s (FP.Core.round FP.Core.b64 d) := r_round_fit FP.Core.b64 FP.Core.b32 (by decide) (by decide) hd
  obtain ⟨e1, e2, e3⟩ := b64_dec hr
  unfold fn_X12_ofFloat
  rw [k_f2d hd, n64_ok e2 e3, zc_t, k_d2l h hr, zl_0, zr_e]
theorem k_ofWhole (h h' : mz_H) (v : Int64) : (∃ r, fn_X3_ofWhole h v 1 = some (r, h, 0, 0) ∧ fn_X12_ofFloat h' (FP.l2f v) = some (r, h', 0, 0)) ∧ (∃ r, fn_X3_ofWhole h v 0 = some (r, h, 0, 0) ∧ fn_J_d2l h' (FP.l2d v) = some (r, h', 0, 0)) := by
  obtain ⟨s, D, hD, hv, hw⟩ : ∃ (s : Bool) (D : Nat), D < 2 ^ 64 ∧ FP.Core.ofInt v.toInt = .fin s D 0 ∧ ∀ x, fn_X3_ofWhole h v x = mz_call (fn_X3_rounded h (lN (sg s)) (lN D) (zI 0) x) fun v1 h => mz_ret v1 h := by
    obtain ⟨n, hn, rfl⟩ := u_all v
    unfold fn_X3_ofWhole FP.Core.ofInt
    rw [u_toInt hn]
    by_cases q : n < 2 ^ 63
    · refine ⟨false, n, hn, ?_, fun x => ?_⟩
      · rw [if_pos q, decide_eq_false (by omega)]
        rfl
      · rw [if_pos ((u_ge0 hn).mpr q)]
        rfl
    · refine ⟨true, 2 ^ 64 - n, by omega, ?_, fun x => ?_⟩
      · rw [if_neg q, decide_eq_true (by omega)]
        congr 1
        omega
      · rw [if_neg (fun e => q ((u_ge0 hn).mp e))]
        have : -lN n = lN (2 ^ 64 - n) := by
          have e : lN (2 ^ 64 - n) + lN n = 0 := by
            rw [lN_add, show 2 ^ 64 - n + n = 2 ^ 64 by omega]
            rfl
          rw [← Int64.zero_sub, ← e]
          exact Int64.add_sub_cancel _ _
        rw [this]
        rfl
  refine ⟨?_, ?_⟩
  · have hd := r_ratio_fit FP.Core.b32 s (by decide) (by decide) D 0
    refine ⟨lN (FP.Core.encode FP.Core.b64 (FP.Core.round FP.Core.b64 (FP.Core.roundRatio FP.Core.b32 s D 1 0))), ?_, ?_⟩
    · rw [hw, k_rounded1 h s hD (by omega) (by omega), zl_0, zr_e]
    · rw [← k_ofFloat h' hd]
      show fn_X12_ofFloat h' (UInt32.ofNat (FP.Core.encode FP.Core.b32 (FP.Core.round FP.Core.b32 (FP.Core.ofInt v.toInt)))) = _
      rw [hv]
      rfl
  · have hd := r_ratio_fit FP.Core.b64 s (by decide) (by decide) D 0
    refine ⟨lN (FP.Core.encode FP.Core.b64 (FP.Core.roundRatio FP.Core.b64 s D 1 0)), ?_, ?_⟩
    · rw [hw, k_rounded0 h s hD (by omega) (by omega), zl_0, zr_e, r_fit_round FP.Core.b64 (by decide) hd]
    · rw [← k_d2l h' hd]
      show fn_J_d2l h' (UInt64.ofNat (FP.Core.encode FP.Core.b64 (FP.Core.round FP.Core.b64 (FP.Core.ofInt v.toInt)))) = _
      rw [hv]
      rfl
theorem snl_ok {n : Nat} (hn : n < 2 ^ 64) (q : ¬ b_nan n) : vn_snl2d (lN n) = false := by
  unfold vn_snl2d
  rw [u_nat]
  have : decide (UInt64.ofNat n &&& 0x7fffffffffffffff > 0x7ff0000000000000) = false := by
    apply decide_eq_false
    rw [gt_iff_lt, UInt64.lt_iff_toNat_lt, UInt64.toNat_and, UInt64.toNat_ofNat', Nat.mod_eq_of_lt hn]
    show ¬ 9218868437227405312 < n &&& (2 ^ 63 - 1)
    rw [Nat.and_two_pow_sub_one_eq_mod]
    intro z
    apply q
    rw [← b_nan_iff]
    unfold b_E b_T
    omega
  rw [this]
  rfl
theorem k_d2f {n : Nat} (hn : n < 2 ^ 64) (q : ¬ b_nan n) : FP.d2f (Int64.toUInt64 (lN n)) = UInt32.ofNat (FP.Core.encode FP.Core.b32 (FP.Core.round FP.Core.b32 (FP.Core.decode FP.Core.b64 n))) := by
  have e : (UInt64.ofNat n).toNat = n := by
    rw [UInt64.toNat_ofNat', Nat.mod_eq_of_lt hn]
  rw [u_nat]
  unfold FP.d2f
  rw [if_neg]
  · show UInt32.ofNat (FP.Core.encode FP.Core.b32 (FP.Core.round FP.Core.b32 (FP.Core.decode FP.Core.b64 (UInt64.ofNat _).toNat))) = _
    rw [e]
  · show ¬ decide (FP.Core.decode FP.Core.b64 (UInt64.ofNat _).toNat = .nan) = true
    rw [e, b_dec]
    intro z
    have z := of_decide_eq_true z
    unfold b_nan at q
    split at z
    · split at z
      · cases z
      · exact q ⟨by assumption, by assumption⟩
    · split at z <;> cases z
theorem k_toFloat (h h' : mz_H) {n : Nat} (hn : n < 2 ^ 64) (q : ¬ b_nan n) : ∃ r, fn_X3_toFloat h (lN n) = some (r, h, 0, 0) ∧ (mz_chk (!vn_snl2d (lN n)) <| mz_chk (mz_n32 (FP.d2f (Int64.toUInt64 (lN n)))) <| mz_call (fn_X12_ofFloat h' (FP.d2f (Int64.toUInt64 (lN n)))) fun v2 h => mz_ret v2 h) = some (r, h', 0, 0) := by
  have key : ∃ s, r_fit FP.Core.b32 s (FP.Core.round FP.Core.b32 (FP.Core.decode FP.Core.b64 n)) ∧ fn_X3_toFloat h (lN n) = some (lN (FP.Core.encode FP.Core.b64 (FP.Core.round FP.Core.b64 (FP.Core.round FP.Core.b32 (FP.Core.decode FP.Core.b64 n)))), h, 0, 0) := by
    unfold fn_X3_toFloat
    rcases k_nan h hn with ⟨z, -⟩ | ⟨-, r, -⟩
    · exact absurd z q
    · rw [r, zl_0, if_pos rfl, k_finite h hn, zl_0]
      by_cases w : b_E n = 2047
      · rw [if_pos w, if_pos rfl, zr_e]
        have hT : b_T n = 0 := Decidable.byContradiction (fun z => q ⟨w, z⟩)
        have hd : FP.Core.decode FP.Core.b64 n = .inf (b_s n) := by
          rw [b_dec, if_pos w, if_pos hT]
        rw [hd]
        refine ⟨b_s n, Or.inl rfl, ?_⟩
        have e := b_parts hn
        rw [w, hT] at e
        have : FP.Core.encode FP.Core.b64 (FP.Core.round FP.Core.b64 (FP.Core.round FP.Core.b32 (.inf (b_s n)))) = n := by
          show ((b_s n).toNat * 2048 + 2047) * 2 ^ 52 + 0 = n
          unfold sg at e
          omega
        rw [this]
      · rw [if_neg w, if_neg (by decide), k_digits h hn, zl_0, k_power h hn, zl_0, u_S hn, b_dec_fin w]
        have h1 := b_E_lt n
        refine ⟨b_s n, r_ratio_fit FP.Core.b32 _ (by decide) (by decide) _ _, ?_⟩
        rw [k_rounded1 h (b_s n) (Nat.lt_trans (b_D_lt n) (by decide)) (by unfold b_p; omega) (by unfold b_p; omega), zl_0, zr_e]
        rfl
  obtain ⟨s, k1, k2⟩ := key
  refine ⟨_, k2, ?_⟩
  obtain ⟨e1, e2, e3⟩ := b32_dec k1
  rw [snl_ok hn q, k_d2f hn q, n32_ok e2 e3, Bool.not_false, zc_t, zc_t, k_ofFloat h' k1, zl_0, zr_e]
theorem c8 {P : Nat → Prop} (h0 : P 0) (h1 : P 1) (h2 : P 2) (h3 : P 3) (h4 : P 4) (h5 : P 5) (h6 : P 6) (h7 : P 7) {l : Nat} (hl : l < 8) : P l := by
  match l, hl with
  | 0, _ => exact h0
  | 1, _ => exact h1
  | 2, _ => exact h2
  | 3, _ => exact h3
  | 4, _ => exact h4
  | 5, _ => exact h5
  | 6, _ => exact h6
  | 7, _ => exact h7
theorem fp_become2 (h h' : mz_H) (v : Int64) {l : Nat} (hl : l < 8) : ∃ r, fn_X3_become h v (nI l) = some (r, h, 0, 0) ∧ fn_X12_comes h' (nI l) v = some (r, h', 0, 0) := by
  revert hl
  refine c8 (P := fun l => ∃ r, fn_X3_become h v (nI l) = some (r, h, 0, 0) ∧ fn_X12_comes h' (nI l) v = some (r, h', 0, 0)) ⟨_, rfl, rfl⟩ ⟨_, rfl, rfl⟩ ⟨_, rfl, rfl⟩ ⟨_, rfl, rfl⟩ ⟨_, rfl, rfl⟩ ?_ ?_ ?_
  · obtain ⟨n, hn, rfl⟩ := u_all v
    show ∃ r, (mz_call (fn_X3_toFloat h (lN n)) fun v1 h => mz_ret v1 h) = some (r, h, 0, 0) ∧ (mz_call (fn_X12_isNumber h' (lN n)) fun v1 h => if v1 = 0 then mz_ret 9221120237041090560 h else mz_chk (!vn_snl2d (lN n)) <| mz_chk (mz_n32 (FP.d2f (Int64.toUInt64 (lN n)))) <| mz_call (fn_X12_ofFloat h (FP.d2f (Int64.toUInt64 (lN n)))) fun v2 h => mz_ret v2 h) = some (r, h', 0, 0)
    rcases k_nan h' hn with ⟨z, -, r⟩ | ⟨z, -, r⟩
    · refine ⟨9221120237041090560, ?_, ?_⟩
      · unfold fn_X3_toFloat
        rcases k_nan h hn with ⟨-, r2, -⟩ | ⟨z2, -⟩
        · rw [r2, zl_0, if_neg (by decide), zr_e, zl_0, zr_e]
        · exact absurd z z2
      · rw [r, zl_0, if_pos rfl, zr_e]
    · obtain ⟨w, w1, w2⟩ := k_toFloat h h' hn z
      refine ⟨w, ?_, ?_⟩
      · rw [w1, zl_0, zr_e]
      · rw [r, zl_0, if_neg (by decide)]
        exact w2
  · obtain ⟨n, hn, rfl⟩ := u_all v
    show ∃ r, (mz_call (fn_X3_isNotANumber h (lN n)) fun v2 h => if v2 = 0 then mz_ret (lN n) h else mz_ret 9221120237041090560 h) = some (r, h, 0, 0) ∧ (mz_call (fn_X12_isNumber h' (lN n)) fun v1 h => if v1 = 0 then mz_ret 9221120237041090560 h else mz_ret (lN n) h) = some (r, h', 0, 0)
    rcases k_nan h' hn with ⟨z, -, r⟩ | ⟨z, -, r⟩ <;> rcases k_nan h hn with ⟨z2, r2, -⟩ | ⟨z2, r2, -⟩
    · refine ⟨9221120237041090560, ?_, ?_⟩
      · rw [r2, zl_0, if_neg (by decide), zr_e]
      · rw [r, zl_0, if_pos rfl, zr_e]
    · exact absurd z z2
    · exact absurd z2 z
    · refine ⟨lN n, ?_, ?_⟩
      · rw [r2, zl_0, if_pos rfl, zr_e]
      · rw [r, zl_0, if_neg (by decide), zr_e]
  · show ∃ r, (if lg_cmp v 0 = 0 then mz_ret 0 h else mz_ret 1 h) = some (r, h, 0, 0) ∧ (if lg_cmp v 0 = 0 then mz_ret 0 h' else mz_ret 1 h') = some (r, h', 0, 0)
    by_cases q : lg_cmp v 0 = 0
    · exact ⟨0, by rw [if_pos q, zr_e], by rw [if_pos q, zr_e]⟩
    · exact ⟨1, by rw [if_neg q, zr_e], by rw [if_neg q, zr_e]⟩
theorem fp_become (h : mz_H) (v : Int64) {l : Nat} (hl : l < 8) : ∃ r, fn_X3_become h v (nI l) = some (r, h, 0, 0) ∧ fn_X12_comes h (nI l) v = some (r, h, 0, 0) := fp_become2 h h v hl
def fp_W (h h' : mz_H) (v : Int64) (a b : Nat) : Prop := (fn_X3_widens h (nI a) (nI b) = some (0, h, 0, 0) ∧ fn_X12_isWidened h' (nI a) (nI b) = some (0, h', 0, 0)) ∨ (fn_X3_widens h (nI a) (nI b) = some (1, h, 0, 0) ∧ fn_X12_isWidened h' (nI a) (nI b) = some (1, h', 0, 0) ∧ ∃ r, fn_X3_widened h v (nI a) (nI b) = some (r, h, 0, 0) ∧ fn_X12_widened h' v (nI a) (nI b) = some (r, h', 0, 0))
theorem fp_wide (h h' : mz_H) (v : Int64) {a b : Nat} (ha : a < 8) (hb : b < 8) : (fn_X3_widens h (nI a) (nI b) = some (0, h, 0, 0) ∧ fn_X12_isWidened h' (nI a) (nI b) = some (0, h', 0, 0)) ∨ (fn_X3_widens h (nI a) (nI b) = some (1, h, 0, 0) ∧ fn_X12_isWidened h' (nI a) (nI b) = some (1, h', 0, 0) ∧ ∃ r, fn_X3_widened h v (nI a) (nI b) = some (r, h, 0, 0) ∧ fn_X12_widened h' v (nI a) (nI b) = some (r, h', 0, 0)) := by
  have w5 : ∃ r, (mz_call (fn_X3_ofWhole h v 1) fun v1 h => mz_ret v1 h) = some (r, h, 0, 0) ∧ (mz_call (fn_X12_ofFloat h' (FP.l2f v)) fun v2 h => mz_ret v2 h) = some (r, h', 0, 0) := by
    obtain ⟨r, r1, r2⟩ := (k_ofWhole h h' v).1
    exact ⟨r, by rw [r1, zl_0, zr_e], by rw [r2, zl_0, zr_e]⟩
  have w6 : ∃ r, (mz_call (fn_X3_ofWhole h v 0) fun v1 h => mz_ret v1 h) = some (r, h, 0, 0) ∧ (mz_call (fn_J_d2l h' (FP.l2d v)) fun v2 h => mz_ret v2 h) = some (r, h', 0, 0) := by
    obtain ⟨r, r1, r2⟩ := (k_ofWhole h h' v).2
    exact ⟨r, by rw [r1, zl_0, zr_e], by rw [r2, zl_0, zr_e]⟩
  have k2 : ∀ b, b < 8 → fp_W h h' v a b := by
    revert ha
    refine c8 (P := fun a => ∀ b, b < 8 → fp_W h h' v a b) ?_ ?_ ?_ ?_ ?_ ?_ ?_ ?_
    all_goals
      intro b hb
      revert hb
    · exact c8 (P := fun b => fp_W h h' v 0 b) (Or.inr ⟨rfl, rfl, v, rfl, rfl⟩) (Or.inr ⟨rfl, rfl, v, rfl, rfl⟩) (Or.inl ⟨rfl, rfl⟩) (Or.inr ⟨rfl, rfl, v, rfl, rfl⟩) (Or.inr ⟨rfl, rfl, v, rfl, rfl⟩) (Or.inr ⟨rfl, rfl, w5⟩) (Or.inr ⟨rfl, rfl, w6⟩) (Or.inl ⟨rfl, rfl⟩)
    · exact c8 (P := fun b => fp_W h h' v 1 b) (Or.inl ⟨rfl, rfl⟩) (Or.inr ⟨rfl, rfl, v, rfl, rfl⟩) (Or.inl ⟨rfl, rfl⟩) (Or.inr ⟨rfl, rfl, v, rfl, rfl⟩) (Or.inr ⟨rfl, rfl, v, rfl, rfl⟩) (Or.inr ⟨rfl, rfl, w5⟩) (Or.inr ⟨rfl, rfl, w6⟩) (Or.inl ⟨rfl, rfl⟩)
    · exact c8 (P := fun b => fp_W h h' v 2 b) (Or.inl ⟨rfl, rfl⟩) (Or.inl ⟨rfl, rfl⟩) (Or.inr ⟨rfl, rfl, v, rfl, rfl⟩) (Or.inr ⟨rfl, rfl, v, rfl, rfl⟩) (Or.inr ⟨rfl, rfl, v, rfl, rfl⟩) (Or.inr ⟨rfl, rfl, w5⟩) (Or.inr ⟨rfl, rfl, w6⟩) (Or.inl ⟨rfl, rfl⟩)
    · exact c8 (P := fun b => fp_W h h' v 3 b) (Or.inl ⟨rfl, rfl⟩) (Or.inl ⟨rfl, rfl⟩) (Or.inl ⟨rfl, rfl⟩) (Or.inr ⟨rfl, rfl, v, rfl, rfl⟩) (Or.inr ⟨rfl, rfl, v, rfl, rfl⟩) (Or.inr ⟨rfl, rfl, w5⟩) (Or.inr ⟨rfl, rfl, w6⟩) (Or.inl ⟨rfl, rfl⟩)
    · exact c8 (P := fun b => fp_W h h' v 4 b) (Or.inl ⟨rfl, rfl⟩) (Or.inl ⟨rfl, rfl⟩) (Or.inl ⟨rfl, rfl⟩) (Or.inl ⟨rfl, rfl⟩) (Or.inr ⟨rfl, rfl, v, rfl, rfl⟩) (Or.inr ⟨rfl, rfl, w5⟩) (Or.inr ⟨rfl, rfl, w6⟩) (Or.inl ⟨rfl, rfl⟩)
    · exact c8 (P := fun b => fp_W h h' v 5 b) (Or.inl ⟨rfl, rfl⟩) (Or.inl ⟨rfl, rfl⟩) (Or.inl ⟨rfl, rfl⟩) (Or.inl ⟨rfl, rfl⟩) (Or.inl ⟨rfl, rfl⟩) (Or.inr ⟨rfl, rfl, v, rfl, rfl⟩) (Or.inr ⟨rfl, rfl, v, rfl, rfl⟩) (Or.inl ⟨rfl, rfl⟩)
    · exact c8 (P := fun b => fp_W h h' v 6 b) (Or.inl ⟨rfl, rfl⟩) (Or.inl ⟨rfl, rfl⟩) (Or.inl ⟨rfl, rfl⟩) (Or.inl ⟨rfl, rfl⟩) (Or.inl ⟨rfl, rfl⟩) (Or.inl ⟨rfl, rfl⟩) (Or.inr ⟨rfl, rfl, v, rfl, rfl⟩) (Or.inl ⟨rfl, rfl⟩)
    · exact c8 (P := fun b => fp_W h h' v 7 b) (Or.inl ⟨rfl, rfl⟩) (Or.inl ⟨rfl, rfl⟩) (Or.inl ⟨rfl, rfl⟩) (Or.inl ⟨rfl, rfl⟩) (Or.inl ⟨rfl, rfl⟩) (Or.inl ⟨rfl, rfl⟩) (Or.inl ⟨rfl, rfl⟩) (Or.inr ⟨rfl, rfl, v, rfl, rfl⟩)
  exact k2 b hb

/-! numbers: the least and the greatest -/
theorem k_d2lN (h : mz_H) {n : Nat} (hn : n < 2 ^ 64) (f : ¬ b_nan n) : fn_J_d2l h (UInt64.ofNat n) = some (lN n, h, 0, 0) := by
  have e : FP.dcmp (UInt64.ofNat n) (UInt64.ofNat n) = some .eq := by
    show FP.Core.order (FP.Core.decode FP.Core.b64 (UInt64.ofNat _).toNat) (FP.Core.decode FP.Core.b64 (UInt64.ofNat _).toNat) = _
    rw [m_dec hn]
    by_cases q : b_E n = 2047
    · rw [b_dec_inf q f]
      cases b_s n <;> rfl
    · rw [b_dec_fin q]
      show some (compare _ _) = _
      rw [cmp_lt, if_neg (by omega), if_pos rfl]
  unfold fn_J_d2l fn_J_isNaN
  rw [e, if_pos (show Op.cmpValue (some .eq) .l = 0 from rfl), z_0, zc_t, zr_e, zl_0, if_pos rfl, zr_e]
  rfl
theorem b_ext {a b : Nat} (ha : a < 2 ^ 64) (hb : b < 2 ^ 64) (hs : b_s a = b_s b) (hA : b_A a = b_A b) : a = b := by
  have e1 := b_parts ha
  have e2 := b_parts hb
  unfold b_A at hA
  rw [hs] at e1
  omega
theorem b_O_V {a b : Nat} (ha : a < 2 ^ 64) (hb : b < 2 ^ 64) : (b_O a < b_O b → b_V a < b_V b ∨ (b_V a = b_V b ∧ b_s a = true)) ∧ (¬ b_O a < b_O b → ¬ b_V a < b_V b ∧ (b_V a = b_V b ∧ b_s a = true → a = b)) := by
  have l1 := b_M_iff a b
  have l2 := b_M_iff b a
  have hx := b_ext ha hb
  rw [b_V_M, b_V_M]
  unfold b_O FP.Core.signed
  cases hs : b_s a <;> cases ht : b_s b <;> rw [hs, ht] at hx <;> simp only [Bool.false_eq_true, if_false, if_true, and_false, and_true, or_false, false_implies]
  · refine ⟨fun z => ?_, fun z => ?_⟩ <;> omega
  · refine ⟨fun z => ?_, fun z => ?_⟩ <;> omega
  · refine ⟨fun z => ?_, fun z => ⟨?_, fun w => ?_⟩⟩ <;> omega
  · refine ⟨fun z => ?_, fun z => ⟨?_, fun w => hx rfl ?_⟩⟩ <;> omega

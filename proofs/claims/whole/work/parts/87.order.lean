/-! numbers: the order -/
theorem cmp_lt (a b : Int) : compare a b = if a < b then .lt else if a = b then .eq else .gt := rfl
theorem cv_lt (a b : Int) (op : CmpOp) : Op.cmpValue (some (compare a b)) op < 0 ↔ a < b := by
  rw [cmp_lt]
  split
  · exact ⟨fun _ => by assumption, fun _ => by cases op <;> decide⟩
  · split
    · exact ⟨fun z => absurd z (by cases op <;> decide), fun z => by omega⟩
    · exact ⟨fun z => absurd z (by cases op <;> decide), fun z => by omega⟩
theorem cv_eq (a b : Int) (op : CmpOp) : Op.cmpValue (some (compare a b)) op = 0 ↔ a = b := by
  rw [cmp_lt]
  split
  · exact ⟨fun z => absurd z (by cases op <;> decide), fun z => by omega⟩
  · split
    · exact ⟨fun _ => by assumption, fun _ => by cases op <;> rfl⟩
    · exact ⟨fun z => absurd z (by cases op <;> decide), fun z => by omega⟩
theorem cv_ge (a b : Int) (op : CmpOp) : 0 ≤ Op.cmpValue (some (compare a b)) op ↔ b ≤ a := by
  rw [← Int32.not_lt, cv_lt]
  omega
theorem cv_gt (a b : Int) (op : CmpOp) : 0 < Op.cmpValue (some (compare a b)) op ↔ b < a := by
  rw [cmp_lt]
  split
  · exact ⟨fun z => absurd z (by cases op <;> decide), fun z => by omega⟩
  · split
    · exact ⟨fun z => absurd z (by cases op <;> decide), fun z => by omega⟩
    · exact ⟨fun _ => by omega, fun _ => by cases op <;> decide⟩
theorem cv_le (a b : Int) (op : CmpOp) : Op.cmpValue (some (compare a b)) op ≤ 0 ↔ a ≤ b := by
  rw [← Int32.not_lt, cv_gt]
  omega
/-- a finite number in units of the least one -/
def b_V (n : Nat) : Int := FP.Core.signed (b_s n) (b_D n * 2 ^ (b_p n + 1074).toNat)
theorem sg_mul (s : Bool) (a k : Nat) : FP.Core.signed s (a * k) = FP.Core.signed s a * (k : Int) := by
  unfold FP.Core.signed
  cases s
  · simp
  · simp [Int.neg_mul]
theorem cmp_scale (a b : Int) {k : Nat} (hk : 0 < k) : compare (a * (k : Int)) (b * (k : Int)) = compare a b := by
  have hk' : (0 : Int) < (k : Int) := by omega
  rw [cmp_lt, cmp_lt]
  have e1 : a * (k : Int) < b * (k : Int) ↔ a < b := Int.mul_lt_mul_right hk'
  have e2 : a * (k : Int) = b * (k : Int) ↔ a = b := Int.mul_eq_mul_right_iff (by omega)
  simp only [e1, e2]
theorem k_dcmp {n1 n2 : Nat} (h1 : n1 < 2 ^ 64) (h2 : n2 < 2 ^ 64) (f1 : b_E n1 ≠ 2047) (f2 : b_E n2 ≠ 2047) : FP.dcmp (UInt64.ofNat n1) (UInt64.ofNat n2) = some (compare (b_V n1) (b_V n2)) := by
  show FP.Core.order (FP.Core.decode FP.Core.b64 (UInt64.ofNat _).toNat) (FP.Core.decode FP.Core.b64 (UInt64.ofNat _).toNat) = _
  rw [UInt64.toNat_ofNat', UInt64.toNat_ofNat', Nat.mod_eq_of_lt h1, Nat.mod_eq_of_lt h2, b_dec_fin f1, b_dec_fin f2]
  show some (compare (FP.Core.signed (b_s n1) (b_D n1 * 2 ^ (b_p n1 - min (b_p n1) (b_p n2)).toNat)) (FP.Core.signed (b_s n2) (b_D n2 * 2 ^ (b_p n2 - min (b_p n1) (b_p n2)).toNat))) = _
  have hb1 : -1074 ≤ b_p n1 := by
    unfold b_p
    omega
  have hb2 : -1074 ≤ b_p n2 := by
    unfold b_p
    omega
  unfold b_V
  congr 1
  obtain ⟨k, hk⟩ : ∃ k : Nat, (k : Int) = min (b_p n1) (b_p n2) + 1074 := ⟨(min (b_p n1) (b_p n2) + 1074).toNat, by omega⟩
  rw [show (b_p n1 + 1074).toNat = (b_p n1 - min (b_p n1) (b_p n2)).toNat + k by omega, show (b_p n2 + 1074).toNat = (b_p n2 - min (b_p n1) (b_p n2)).toNat + k by omega, Nat.pow_add, Nat.pow_add, ← Nat.mul_assoc, ← Nat.mul_assoc, sg_mul _ _ (2 ^ k), sg_mul _ _ (2 ^ k), cmp_scale _ _ (Nat.two_pow_pos k)]

/-! numbers: what a long stands for -/
theorem k_rounded0 (h : mz_H) (s : Bool) {D : Nat} {p : Int} (hD : D < 2 ^ 64) (hb1 : -5000 ≤ p) (hb2 : p ≤ 5000) : fn_X3_rounded h (lN (sg s)) (lN D) (zI p) 0 = some (lN (FP.Core.encode FP.Core.b64 (FP.Core.round FP.Core.b64 (FP.Core.roundRatio FP.Core.b64 s D 1 p))), h, 0, 0) := by
  rw [← k_rounded_b33 (x5 := 0) (top := 1024) h s FP.Core.b64 (by decide) (by decide) (by decide) (by decide) (by decide) (by decide) rfl hD hb1 hb2]
  rw [fn_X3_rounded, k_len h hD, zl_0, if_pos rfl, fn_X3_rounded_b16, zo_s, if_pos rfl, ← zI_n, show (53 : Int32) = zI 53 from rfl, zI_sub]
  rfl
theorem k_rounded1 (h : mz_H) (s : Bool) {D : Nat} {p : Int} (hD : D < 2 ^ 64) (hb1 : -5000 ≤ p) (hb2 : p ≤ 5000) : fn_X3_rounded h (lN (sg s)) (lN D) (zI p) 1 = some (lN (FP.Core.encode FP.Core.b64 (FP.Core.round FP.Core.b64 (FP.Core.roundRatio FP.Core.b32 s D 1 p))), h, 0, 0) := by
  rw [← k_rounded_b33 (x5 := 1) (top := 128) h s FP.Core.b32 (by decide) (by decide) (by decide) (by decide) (by decide) (by decide) rfl hD hb1 hb2]
  rw [fn_X3_rounded, k_len h hD, zl_0, if_neg (by decide), fn_X3_rounded_b16, zo_s, if_neg (by decide), ← zI_n, show (24 : Int32) = zI 24 from rfl, zI_sub]
  rfl
/-! a datum of a format that is a number -/
def r_fit (f : FP.Core.Fmt) (s : Bool) (d : FP.Core.Datum) : Prop := d = .inf s ∨ ∃ c q, d = .fin s c q ∧ c < 2 ^ f.p ∧ f.qmin ≤ q ∧ q ≤ f.qmax ∧ (q = f.qmin ∨ 2 ^ (f.p - 1) ≤ c)
theorem r_ratio_fit (f : FP.Core.Fmt) (s : Bool) (hp : 1 ≤ f.p) (hm : f.qmin ≤ f.qmax) (D : Nat) (p : Int) : r_fit f s (FP.Core.roundRatio f s D 1 p) := by
  by_cases h0 : D = 0
  · subst h0
    exact Or.inr ⟨0, f.qmin, rfl, Nat.two_pow_pos _, Int.le_refl _, hm, Or.inl rfl⟩
  · obtain ⟨n1, n2, n3⟩ := r_N_ok f hp h0 p
    rw [r_ratio f s h0 p]
    rcases r_settle f s hp hm n1 n2 n3 with ⟨-, st⟩ | ⟨-, c, q', st, a, b, c', d, -⟩
    · exact Or.inl st
    · exact Or.inr ⟨c, q', st, a, b, c', d⟩
theorem r_fit_round (f : FP.Core.Fmt) {s : Bool} (hp : 1 ≤ f.p) {d : FP.Core.Datum} (h : r_fit f s d) : FP.Core.round f d = d := by
  rcases h with rfl | ⟨c, q, rfl, a, b, c', d'⟩
  · rfl
  · exact r_fits f s hp a b c' d'
theorem r_round_fit (f g : FP.Core.Fmt) {s : Bool} (hp : 1 ≤ f.p) (hm : f.qmin ≤ f.qmax) {d : FP.Core.Datum} (h : r_fit g s d) : r_fit f s (FP.Core.round f d) := by
  rcases h with rfl | ⟨c, q, rfl, -⟩
  · exact Or.inl rfl
  · exact r_ratio_fit f s hp hm c q
theorem r_dec (f : FP.Core.Fmt) {s : Bool} (hp : 1 ≤ f.p) (hx : 2 ≤ f.exps) (hq : f.qmax - f.qmin + 1 < (f.exps : Int) - 1) {d : FP.Core.Datum} (h : r_fit f s d) : FP.Core.decode f (FP.Core.encode f d) = d ∧ FP.Core.encode f d < 2 * f.exps * f.tails ∧ FP.Core.encode f d % (f.exps * f.tails) ≤ (f.exps - 1) * f.tails := by
  have key : ∀ E T, E < f.exps → T < f.tails → (E = f.exps - 1 → T = 0) → FP.Core.fieldT f (FP.Core.assemble f s E T) = T ∧ FP.Core.fieldE f (FP.Core.assemble f s E T) = E ∧ FP.Core.fieldS f (FP.Core.assemble f s E T) = s ∧ FP.Core.assemble f s E T < 2 * f.exps * f.tails ∧ FP.Core.assemble f s E T % (f.exps * f.tails) ≤ (f.exps - 1) * f.tails := by
    intro E T hE hT hET
    unfold FP.Core.fieldT FP.Core.fieldE FP.Core.fieldS FP.Core.assemble
    have hT0 : 0 < f.tails := Nat.two_pow_pos _
    have e1 : ((s.toNat * f.exps + E) * f.tails + T) / f.tails = s.toNat * f.exps + E := by
      rw [Nat.mul_comm, Nat.mul_add_div hT0, Nat.div_eq_of_lt hT, Nat.add_zero]
    have e2 : (s.toNat * f.exps + E) / f.exps = s.toNat := by
      rw [Nat.mul_comm, Nat.mul_add_div (by omega), Nat.div_eq_of_lt hE, Nat.add_zero]
    refine ⟨?_, ?_, ?_, ?_, ?_⟩
    · rw [Nat.mul_comm, Nat.mul_add_mod, Nat.mod_eq_of_lt hT]
    · rw [e1, Nat.mul_comm, Nat.mul_add_mod, Nat.mod_eq_of_lt hE]
    · rw [e1, e2]
      cases s <;> rfl
    · have hs : s.toNat ≤ 1 := Bool.toNat_le s
      have a1 : s.toNat * f.exps + E + 1 ≤ 2 * f.exps := by
        have := Nat.mul_le_mul_right f.exps hs
        omega
      have := Nat.mul_le_mul_right f.tails a1
      rw [Nat.add_mul] at this
      omega
    · have e3 : (s.toNat * f.exps + E) * f.tails + T = f.exps * f.tails * s.toNat + (E * f.tails + T) := by
        rw [Nat.add_mul, Nat.mul_comm (s.toNat) f.exps, Nat.mul_assoc, Nat.mul_comm s.toNat, ← Nat.mul_assoc, Nat.add_assoc]
      have a2 : E * f.tails + T < f.exps * f.tails := by
        have := Nat.mul_le_mul_right f.tails (show E + 1 ≤ f.exps by omega)
        rw [Nat.add_mul] at this
        omega
      rw [e3, Nat.mul_add_mod, Nat.mod_eq_of_lt a2]
      by_cases z : E = f.exps - 1
      · rw [hET z, z]
        omega
      · have := Nat.mul_le_mul_right f.tails (show E + 1 ≤ f.exps - 1 by omega)
        rw [Nat.add_mul] at this
        omega
  have ht : f.tails = 2 ^ (f.p - 1) := rfl
  have h2p : (2 : Nat) ^ f.p = 2 ^ (f.p - 1) * 2 ^ 1 := by
    rw [← Nat.pow_add, show f.p - 1 + 1 = f.p by omega]
  have hpos := Nat.two_pow_pos (f.p - 1)
  rcases h with rfl | ⟨c, q, rfl, a, b, c', d'⟩
  · obtain ⟨k1, k2, k3, k4, k5⟩ := key (f.exps - 1) 0 (by omega) (by omega) (fun _ => rfl)
    refine ⟨?_, k4, k5⟩
    show FP.Core.decode f (FP.Core.assemble f s (f.exps - 1) 0) = _
    unfold FP.Core.decode
    rw [k1, k2, k3, if_pos rfl, if_pos rfl]
  · by_cases g : c < f.tails
    · have ee : FP.Core.encode f (.fin s c q) = FP.Core.assemble f s 0 c := if_pos g
      obtain ⟨k1, k2, k3, k4, k5⟩ := key 0 c (by omega) g (fun z => absurd z (by omega))
      rw [ee]
      refine ⟨?_, k4, k5⟩
      unfold FP.Core.decode
      rw [k1, k2, k3, if_neg (by omega), if_pos rfl]
      congr 1
      omega
    · have ee : FP.Core.encode f (.fin s c q) = FP.Core.assemble f s ((q - f.qmin).toNat + 1) (c - f.tails) := if_neg g
      obtain ⟨k1, k2, k3, k4, k5⟩ := key ((q - f.qmin).toNat + 1) (c - f.tails) (by omega) (by omega) (fun z => absurd z (by omega))
      rw [ee]
      refine ⟨?_, k4, k5⟩
      unfold FP.Core.decode
      rw [k1, k2, k3, if_neg (by omega), if_neg (by omega)]
      congr 1
      · omega
      · omega

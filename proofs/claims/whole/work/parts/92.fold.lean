/-! fold: its steps -/
theorem fo_fin {d : FP.Core.Datum} {s : Bool} (hd : r_fit FP.Core.b64 s d) (hi : d ≠ .inf s) : b_E (FP.Core.encode FP.Core.b64 d) ≠ 2047 := by
  obtain ⟨y1, -, -⟩ := b64_dec hd
  intro e
  rw [b_dec, if_pos e] at y1
  split at y1
  · rcases hd with z | ⟨c, q, z, -⟩
    · exact hi z
    · rw [z] at y1
      cases y1
  · exact r_fit_nan hd y1.symm
theorem fo_nn {d : FP.Core.Datum} {s : Bool} (hd : r_fit FP.Core.b64 s d) : ¬ b_nan (FP.Core.encode FP.Core.b64 d) := by
  obtain ⟨y1, -, -⟩ := b64_dec hd
  rintro ⟨e, t⟩
  rw [b_dec, if_pos e, if_neg t] at y1
  exact r_fit_nan hd y1.symm
theorem fo_ninf (s : Bool) {D : Nat} (hD : D < 2 ^ 64) : FP.Core.roundRatio FP.Core.b64 s D 1 0 ≠ .inf s := by
  by_cases z : D = 0
  · subst z
    intro e
    have e2 : FP.Core.Datum.fin s 0 FP.Core.b64.qmin = .inf s := e
    cases e2
  · have hl : D.log2 < 64 := by
      rw [Nat.log2_lt z]
      exact hD
    have hq : FP.Core.quantum FP.Core.b64 D 1 0 ≤ 11 := by
      rw [r_quant _ z, b64_qmin]
      show max (-1074) ((D.log2 : Int) + 0 - (53 - 1)) ≤ 11
      omega
    rw [r_ratio _ s z]
    generalize FP.Core.quantum FP.Core.b64 D 1 0 = Q at hq
    generalize r_N FP.Core.b64 D 0 = N
    unfold FP.Core.settle FP.Core.bound
    rw [b64_qmax]
    intro e
    split at e
    · rw [if_pos (by omega)] at e
      cases e
    · rw [if_pos (by omega)] at e
      cases e
theorem k_wholeD (h : mz_H) (v : Int64) : ∃ N, N < 2 ^ 64 ∧ b_E N ≠ 2047 ∧ fn_X3_ofWhole h v 0 = some (lN N, h, 0, 0) ∧ FP.l2d v = UInt64.ofNat N := by
  obtain ⟨s, D, hD, hv, hw⟩ : ∃ (s : Bool) (D : Nat), D < 2 ^ 64 ∧ FP.Core.ofInt v.toInt = .fin s D 0 ∧ ∀ x, fn_X3_ofWhole h v x = mz_call (fn_X3_rounded h (lN (sg s)) (lN D) (zI 0) x) fun v1 h => mz_ret v1 h := by
    obtain ⟨n, hn, rfl⟩ := u_all v
    unfold fn_X3_ofWhole FP.Core.ofInt
    rw [u_toInt hn]
    by_cases q : n < 2 ^ 63
    · refine ⟨false, n, hn, ?_, fun x => ?_⟩
      · rw [if_pos q, decide_eq_false (by omega)]
        rfl
      · rw [if_pos ((u_ge0 hn).mpr q)]
        rfl
    · refine ⟨true, 2 ^ 64 - n, by omega, ?_, fun x => ?_⟩
      · rw [if_neg q, decide_eq_true (by omega)]
        congr 1
        omega
      · rw [if_neg (fun e => q ((u_ge0 hn).mp e))]
        have : -lN n = lN (2 ^ 64 - n) := by
          have e : lN (2 ^ 64 - n) + lN n = 0 := by
            rw [lN_add, show 2 ^ 64 - n + n = 2 ^ 64 by omega]
            rfl
          rw [← Int64.zero_sub, ← e]
          exact Int64.add_sub_cancel _ _
        rw [this]
        rfl
  have hd := r_ratio_fit FP.Core.b64 s (by decide) (by decide) D 0
  refine ⟨FP.Core.encode FP.Core.b64 (FP.Core.roundRatio FP.Core.b64 s D 1 0), (b64_dec hd).2.1, fo_fin hd (fo_ninf s hD), ?_, ?_⟩
  · rw [hw, k_rounded0 h s hD (by omega) (by omega), zl_0, zr_e, r_fit_round FP.Core.b64 (by decide) hd]
  · show UInt64.ofNat (FP.Core.encode FP.Core.b64 (FP.Core.round FP.Core.b64 (FP.Core.ofInt v.toInt))) = _
    rw [hv]
    rfl
theorem fo_nz {a : Nat} (ha : a < 2 ^ 64) (za : a ≠ 2 ^ 63) : ¬ (b_s a = true ∧ b_D a = 0) := by
  rintro ⟨e1, e2⟩
  rw [b_D_0] at e2
  have e := b_parts ha
  unfold b_A at e2
  rw [e1] at e
  have : sg true = 9223372036854775808 := by decide
  omega
theorem fo_dec63 : FP.Core.decode FP.Core.b64 (2 ^ 63) = .fin true 0 (-1074) := by decide +kernel
theorem fo_sum (h : mz_H) {a N : Nat} (ha : a < 2 ^ 64) (hN : N < 2 ^ 64) (fa : ¬ b_nan a) (fN : b_E N ≠ 2047) (za : a ≠ 2 ^ 63) : ∃ a', a' < 2 ^ 64 ∧ ¬ b_nan a' ∧ a' ≠ 2 ^ 63 ∧ fn_X3_sum h (lN a) (lN N) = some (lN a', h, 0, 0) ∧ FP.dadd (UInt64.ofNat a) (UInt64.ofNat N) = UInt64.ofNat a' ∧ mz_n64 (UInt64.ofNat a') = true := by
  obtain ⟨s, hf, hs⟩ := k_sum h ha hN fa (fun z => fN z.1) (Or.inr fN)
  obtain ⟨y1, y2, y3⟩ := b64_dec hf
  refine ⟨_, y2, fo_nn hf, ?_, hs, m_add ha hN, n64_ok y2 y3⟩
  intro e
  rw [e, fo_dec63, b_dec_fin fN] at y1
  by_cases q : b_E a = 2047
  · rw [b_dec_inf q fa] at y1
    cases y1
  · rw [b_dec_fin q] at y1
    exact x_nz (b_p_ge a).1 (b_p_ge N).1 (fo_nz ha za) _ y1.symm
theorem fo_dec0 (s : Bool) : FP.Core.decode FP.Core.b64 (FP.Core.encode FP.Core.b64 (FP.Core.round FP.Core.b64 (.fin s 0 0))) = .fin s 0 (-1074) := by
  cases s <;> decide +kernel
/-- the nearest whole of both sides, as a term of a sum -/
theorem fo_whole (h h' : mz_H) {N : Nat} (hN : N < 2 ^ 64) (fN : b_E N ≠ 2047) : ∃ w w', w < 2 ^ 64 ∧ w' < 2 ^ 64 ∧ b_E w ≠ 2047 ∧ b_E w' ≠ 2047 ∧ fn_X3_nearestWhole h (lN N) = some (lN w, h, 0, 0) ∧ fn_X12_nearest h' (UInt64.ofNat N) = some (UInt64.ofNat w', h', 0, 0) ∧
    ∀ a, a < 2 ^ 64 → ¬ b_nan a → a ≠ 2 ^ 63 → FP.dadd (UInt64.ofNat a) (UInt64.ofNat w') = FP.dadd (UInt64.ofNat a) (UInt64.ofNat w) := by
  obtain ⟨c1, c2⟩ := k_nearW h hN
  obtain ⟨r1, r2⟩ := k_refNear h' hN fN
  by_cases hp : 0 ≤ b_p N
  · exact ⟨N, N, hN, hN, fN, fN, c1 hp, r1 hp, fun _ _ _ _ => rfl⟩
  · have hp' : b_p N < 0 := by omega
    have hw := b_w_le hp'
    have hd := r_ratio_fit FP.Core.b64 (b_s N) (by decide) (by decide) (b_w N) 0
    have hd0 := r_ratio_fit FP.Core.b64 false (by decide) (by decide) 0 0
    have c2' := c2 hp'
    have r2' := r2 hp'
    unfold b_wd at r2'
    by_cases z : b_w N = 0
    · rw [if_pos z] at r2'
      rw [z] at c2' hd
      have x1 := fo_dec0 (b_s N)
      have x2 := fo_dec0 false
      have b1 : FP.Core.encode FP.Core.b64 (FP.Core.round FP.Core.b64 (.fin (b_s N) 0 0)) < 2 ^ 64 := (b64_dec hd).2.1
      have b2 : FP.Core.encode FP.Core.b64 (FP.Core.round FP.Core.b64 (.fin false 0 0)) < 2 ^ 64 := (b64_dec hd0).2.1
      have b3 : b_E (FP.Core.encode FP.Core.b64 (FP.Core.round FP.Core.b64 (.fin (b_s N) 0 0))) ≠ 2047 := fo_fin hd (fo_ninf _ (by decide))
      have b4 : b_E (FP.Core.encode FP.Core.b64 (FP.Core.round FP.Core.b64 (.fin false 0 0))) ≠ 2047 := fo_fin hd0 (fo_ninf _ (by decide))
      generalize FP.Core.encode FP.Core.b64 (FP.Core.round FP.Core.b64 (.fin (b_s N) 0 0)) = w1 at x1 b1 b3 c2'
      generalize FP.Core.encode FP.Core.b64 (FP.Core.round FP.Core.b64 (.fin false 0 0)) = w2 at x2 b2 b4 r2'
      refine ⟨w1, w2, b1, b2, b3, b4, c2', r2', fun a ha fa za => ?_⟩
      rw [m_add ha b1, m_add ha b2, x1, x2]
      by_cases q : b_E a = 2047
      · rw [b_dec_inf q fa]
        rfl
      · rw [b_dec_fin q, x_zero _ _ (b_p_ge a).1 (fo_nz ha za), x_zero _ _ (b_p_ge a).1 (fo_nz ha za)]
    · rw [if_neg z] at r2'
      exact ⟨_, _, (b64_dec hd).2.1, (b64_dec hd).2.1, fo_fin hd (fo_ninf _ (by omega)), fo_fin hd (fo_ninf _ (by omega)), c2', r2', fun _ _ _ _ => rfl⟩
def fo_l (c a N : Nat) : Nat := if c = 0 then N else if b_O N < b_O a then N else a
def fo_g (c a N : Nat) : Nat := if c = 0 then N else if b_O a < b_O N then N else a
theorem fo_nn2 {n : Nat} (h : b_E n ≠ 2047) : ¬ b_nan n := fun z => h z.1
theorem fo_145 (rc : mz_H → (Option Nat) → Int32 → Int32 → UInt64 → UInt64 → UInt64 → UInt64 → Int32 → mz_Res Int64) (h : mz_H) (a0 : Option Nat) (x1 : Int32) {c a5 N : Nat} (hc : c < 2 ^ 31) (h5 : a5 < 2 ^ 64) (hN : N < 2 ^ 64) (f5 : c ≠ 0 → b_E a5 ≠ 2047) (fN : b_E N ≠ 2047) (d7 d9 : UInt64) (x11 : Int32) (s0 : UInt64) :
    fn_X12_fold_b145 rc h a0 x1 (nI c) (UInt64.ofNat a5) d7 d9 x11 (UInt64.ofNat N) s0 = fn_X12_fold_b183 rc h a0 x1 (nI c) s0 d7 d9 x11 (UInt64.ofNat N) (UInt64.ofNat (fo_g c a5 N)) := by
  unfold fn_X12_fold_b145 fo_g fn_X12_fold_b176 fn_X12_fold_b181
  by_cases z : c = 0
  · subst z
    rw [if_pos nI_0, if_pos rfl]
  · obtain ⟨o1, o2⟩ := b_O_V h5 hN
    rw [if_neg (nI_ne0 (by omega) hc), if_neg z, k_dcmp hN h5 fN (f5 z), k_d2lN h h5 (fo_nn2 (f5 z))]
    simp only [cv_gt, cv_eq, zl_0]
    by_cases g : b_O a5 < b_O N
    · rw [if_pos g]
      by_cases v : b_V a5 < b_V N
      · rw [if_pos v]
      · rcases o1 g with v2 | ⟨v2, v3⟩
        · exact absurd v2 v
        · rw [if_neg v, if_pos v2.symm, if_neg]
          rw [u_ge0 h5]
          have := (b_s_iff h5).mp v3
          omega
    · obtain ⟨v1, v2⟩ := o2 g
      rw [if_neg g, if_neg v1]
      by_cases v : b_V N = b_V a5
      · rw [if_pos v]
        by_cases s : a5 < 2 ^ 63
        · rw [if_pos ((u_ge0 h5).mpr s)]
        · rw [if_neg (fun z => s ((u_ge0 h5).mp z)), v2 ⟨v.symm, (b_s_iff h5).mpr (by omega)⟩]
      · rw [if_neg v]
theorem fo_109 (rc : mz_H → (Option Nat) → Int32 → Int32 → UInt64 → UInt64 → UInt64 → UInt64 → Int32 → mz_Res Int64) (h : mz_H) (a0 : Option Nat) (x1 : Int32) {c a3 a5 N : Nat} (hc : c < 2 ^ 31) (h3 : a3 < 2 ^ 64) (h5 : a5 < 2 ^ 64) (hN : N < 2 ^ 64) (f3 : c ≠ 0 → b_E a3 ≠ 2047) (f5 : c ≠ 0 → b_E a5 ≠ 2047) (fN : b_E N ≠ 2047) (d7 d9 : UInt64) (x11 : Int32) :
    fn_X12_fold_b109 rc h a0 x1 (nI c) (UInt64.ofNat a3) (UInt64.ofNat a5) d7 d9 x11 (UInt64.ofNat N) = fn_X12_fold_b183 rc h a0 x1 (nI c) (UInt64.ofNat (fo_l c a3 N)) d7 d9 x11 (UInt64.ofNat N) (UInt64.ofNat (fo_g c a5 N)) := by
  unfold fn_X12_fold_b109 fo_l fn_X12_fold_b139 fn_X12_fold_b144
  by_cases z : c = 0
  · subst z
    rw [if_pos nI_0, if_pos rfl]
    exact fo_145 rc h a0 x1 hc h5 hN f5 fN _ _ _ _
  · obtain ⟨o1, o2⟩ := b_O_V hN h3
    rw [if_neg (nI_ne0 (by omega) hc), if_neg z, k_dcmp hN h3 fN (f3 z), k_d2lN h hN (fo_nn2 fN)]
    simp only [cv_lt, cv_eq, zl_0, fo_145 rc h a0 x1 hc h5 hN f5 fN]
    by_cases g : b_O N < b_O a3
    · rw [if_pos g]
      by_cases v : b_V N < b_V a3
      · rw [if_pos v]
      · rcases o1 g with v2 | ⟨v2, v3⟩
        · exact absurd v2 v
        · rw [if_neg v, if_pos v2, if_neg]
          rw [u_ge0 hN]
          have := (b_s_iff hN).mp v3
          omega
    · obtain ⟨v1, v2⟩ := o2 g
      rw [if_neg g, if_neg v1]
      by_cases v : b_V N = b_V a3
      · rw [if_pos v]
        by_cases s : N < 2 ^ 63
        · rw [if_pos ((u_ge0 hN).mpr s)]
        · have e := v2 ⟨v, (b_s_iff hN).mpr (by omega)⟩
          rw [if_neg (fun z => s ((u_ge0 hN).mp z))]
          rw [e]
      · rw [if_neg v]

/-! at -/
theorem fo_ninf2 (s : Bool) {D a : Nat} {p : Int} (hD : D < 2 ^ a) (hp : (a : Int) + p ≤ 900) : FP.Core.roundRatio FP.Core.b64 s D 1 p ≠ .inf s := by
  by_cases z : D = 0
  · subst z
    intro e
    have e2 : FP.Core.Datum.fin s 0 FP.Core.b64.qmin = .inf s := e
    cases e2
  · have hl : D.log2 < a := by
      rw [Nat.log2_lt z]
      exact hD
    have hq : FP.Core.quantum FP.Core.b64 D 1 p ≤ 900 := by
      rw [r_quant _ z, b64_qmin]
      show max (-1074) ((D.log2 : Int) + p - (53 - 1)) ≤ 900
      omega
    rw [r_ratio _ s z]
    generalize FP.Core.quantum FP.Core.b64 D 1 p = Q at hq
    generalize r_N FP.Core.b64 D p = N
    unfold FP.Core.settle FP.Core.bound
    rw [b64_qmax]
    intro e
    split at e
    · rw [if_pos (by omega)] at e
      cases e
    · rw [if_pos (by omega)] at e
      cases e
theorem x_small {s t u : Bool} {c d : Nat} {q r : Int} (hc : c < 2 ^ 53) (hd : d < 2 ^ 53) (q1 : -1074 ≤ q) (q2 : q ≤ 0) (r1 : -1074 ≤ r) (r2 : r ≤ 0) : FP.Core.round FP.Core.b64 (FP.Core.exactSum (.fin s c q) (.fin t d r)) ≠ .inf u := by
  show FP.Core.roundRatio FP.Core.b64 (FP.Core.sumSign s t (FP.Core.sumUnits s c q t d r (min q r))) (FP.Core.sumUnits s c q t d r (min q r)).natAbs 1 (min q r) ≠ _
  have hb : (FP.Core.sumUnits s c q t d r (min q r)).natAbs < 2 ^ (54 + (-min q r).toNat) := by
    have l1 := Nat.mul_lt_mul_of_pos_right hc (Nat.two_pow_pos (q - min q r).toNat)
    have l2 := Nat.mul_lt_mul_of_pos_right hd (Nat.two_pow_pos (r - min q r).toNat)
    have l3 := Nat.pow_le_pow_right (show 0 < 2 by omega) (show (q - min q r).toNat ≤ (-min q r).toNat by omega)
    have l4 := Nat.pow_le_pow_right (show 0 < 2 by omega) (show (r - min q r).toNat ≤ (-min q r).toNat by omega)
    have l5 := Nat.mul_le_mul_left (2 ^ 53) l3
    have l6 := Nat.mul_le_mul_left (2 ^ 53) l4
    rw [Nat.pow_add, show (2 : Nat) ^ 54 = 2 ^ 53 + 2 ^ 53 from rfl, Nat.add_mul]
    generalize 2 ^ 53 * 2 ^ (-min q r).toNat = Z at l5 l6
    unfold FP.Core.sumUnits FP.Core.inUnits
    generalize c * 2 ^ (q - min q r).toNat = A at l1
    generalize d * 2 ^ (r - min q r).toNat = B at l2
    unfold FP.Core.signed
    split <;> split <;> omega
  intro e
  have hf := r_ratio_fit FP.Core.b64 (FP.Core.sumSign s t (FP.Core.sumUnits s c q t d r (min q r))) (by decide) (by decide) (FP.Core.sumUnits s c q t d r (min q r)).natAbs (min q r)
  rcases hf with z | ⟨_, _, z, -⟩
  · exact fo_ninf2 _ hb (by omega) z
  · rw [z] at e
    cases e
theorem b_V_0 (n : Nat) : b_V n = 0 ↔ b_A n = 0 := by
  rw [b_V_M, ← b_D_0]
  have : b_M n = 0 ↔ b_D n = 0 := by
    unfold b_M
    rw [Nat.mul_eq_zero]
    exact ⟨fun z => z.resolve_right (Nat.ne_of_gt (Nat.two_pow_pos _)), fun z => Or.inl z⟩
  rw [← this]
  unfold FP.Core.signed
  split <;> omega
theorem m_mul {a b : Nat} (ha : a < 2 ^ 64) (hb : b < 2 ^ 64) : FP.dmul (UInt64.ofNat a) (UInt64.ofNat b) = UInt64.ofNat (FP.Core.encode FP.Core.b64 (FP.Core.round FP.Core.b64 (FP.Core.exactProduct (FP.Core.decode FP.Core.b64 a) (FP.Core.decode FP.Core.b64 b)))) := by
  show UInt64.ofNat (FP.Core.encode FP.Core.b64 (FP.Core.round FP.Core.b64 (FP.Core.exactProduct (FP.Core.decode FP.Core.b64 (UInt64.ofNat a).toNat) (FP.Core.decode FP.Core.b64 (UInt64.ofNat b).toNat)))) = _
  rw [m_dec ha, m_dec hb]
/-- the part behind the whole below -/
theorem at_part (h : mz_H) {n F L : Nat} (hn : n < 2 ^ 64) (f : b_E n ≠ 2047) (hF : F < 2 ^ 64) (fF : b_E F ≠ 2047) (hFL : F = L ∨ (n = 2 ^ 63 ∧ F = 2 ^ 63 ∧ L = 0)) (hp : (0 ≤ b_p n ∧ F = n) ∨ (b_p n < 0 ∧ b_p F ≤ 0)) :
    ∃ P Q, P < 2 ^ 64 ∧ Q < 2 ^ 64 ∧ b_E P ≠ 2047 ∧ b_E Q ≠ 2047 ∧ fn_X3_sum h (lN n) (lN (b_ng F)) = some (lN P, h, 0, 0) ∧ FP.dsub (UInt64.ofNat n) (UInt64.ofNat L) = UInt64.ofNat Q ∧ mz_n64 (UInt64.ofNat Q) = true ∧ (P = Q ∨ (b_A P = 0 ∧ b_A Q = 0)) := by
  obtain ⟨P, s, hf, eP, hP, nP, S, D, N⟩ := k_sub h hn hF (fo_nn2 f) (fo_nn2 fF) (Or.inl f)
  rcases hFL with rfl | ⟨rfl, rfl, rfl⟩
  · have fP : b_E P ≠ 2047 := by
      rw [eP]
      apply fo_fin hf
      rw [b_dec_fin f, b_dec_fin fF]
      rcases hp with ⟨h0, rfl⟩ | ⟨h0, h1⟩
      · show FP.Core.round FP.Core.b64 (FP.Core.exactSum (.fin (b_s F) (b_D F) (b_p F)) (.fin (!b_s F) (b_D F) (b_p F))) ≠ _
        rw [x_diff _ _ _ (Int.le_refl _) (by rw [Int.sub_self]; exact Nat.le_of_eq (Nat.mul_one _).symm), Int.sub_self, if_pos (show b_D F * 2 ^ Int.toNat 0 = b_D F from Nat.mul_one _)]
        intro e
        have e2 : FP.Core.Datum.fin false 0 FP.Core.b64.qmin = .inf s := e
        cases e2
      · exact x_small (b_D_lt _) (b_D_lt _) (b_p_ge _).1 (by omega) (b_p_ge _).1 h1
    exact ⟨P, P, hP, hP, fP, fP, S, D, N, Or.inl rfl⟩
  · have e0 : P = 0 := by
      rw [eP]
      decide +kernel
    subst e0
    exact ⟨0, 2 ^ 63, by decide, by decide, by decide, by decide, S, by decide +kernel, by decide +kernel, Or.inr ⟨by decide, by decide⟩⟩
def at_T (h : mz_H) (va vb : Int64) (d : UInt64) : mz_Res Int64 :=
  mz_call (fn_X12_isFinite h vb) fun v2 h =>
  if v2 = 0 then
    mz_ret 9221120237041090560 h
  else
    mz_chk (!vn_snl2d va) <|
    mz_op (some (Int64.toUInt64 va)) fun v3 =>
    mz_chk (!vn_snl2d vb) <|
    mz_chk (mz_n64 (FP.dsub (Int64.toUInt64 vb) v3)) <|
    mz_chk (mz_n64 (FP.dmul (FP.dsub (Int64.toUInt64 vb) v3) d)) <|
    mz_chk (mz_n64 (FP.dadd v3 (FP.dmul (FP.dsub (Int64.toUInt64 vb) v3) d))) <|
    mz_call (fn_J_d2l h (FP.dadd v3 (FP.dmul (FP.dsub (Int64.toUInt64 vb) v3) d))) fun v4 h =>
    mz_ret v4 h
theorem at_tail (h h' : mz_H) {a b P : Nat} (ha : a < 2 ^ 64) (hb : b < 2 ^ 64) (hP : P < 2 ^ 64) (fa : b_E a ≠ 2047) (fb : b_E b ≠ 2047) (fP : b_E P ≠ 2047) (zP : b_A P ≠ 0) :
    ∃ r, (mz_call (fn_X3_negated h (lN a)) fun v8 h => mz_call (fn_X3_sum h (lN b) v8) fun v9 h => mz_call (fn_X3_product h v9 (lN P)) fun v10 h => mz_call (fn_X3_sum h (lN a) v10) fun v11 h => mz_ret v11 h) = some (r, h, 0, 0) ∧ at_T h' (lN a) (lN b) (UInt64.ofNat P) = some (r, h', 0, 0) := by
  obtain ⟨R, s, -, -, hR, nR, S1, D1, N1⟩ := k_sub h hb ha (fo_nn2 fb) (fo_nn2 fa) (Or.inl fb)
  obtain ⟨s2, hf2, S2⟩ := k_product h hR hP nR fP zP
  have D2 := m_mul hR hP
  obtain ⟨-, y2, y3⟩ := b64_dec hf2
  have n2 := fo_nn hf2
  generalize FP.Core.encode FP.Core.b64 (FP.Core.round FP.Core.b64 (FP.Core.exactProduct (FP.Core.decode FP.Core.b64 R) (FP.Core.decode FP.Core.b64 P))) = M at S2 D2 y2 y3 n2
  obtain ⟨s3, hf3, S3⟩ := k_sum h ha y2 (fo_nn2 fa) n2 (Or.inl fa)
  have D3 := m_add ha y2
  obtain ⟨-, w2, w3⟩ := b64_dec hf3
  have n3 := fo_nn hf3
  generalize FP.Core.encode FP.Core.b64 (FP.Core.round FP.Core.b64 (FP.Core.exactSum (FP.Core.decode FP.Core.b64 a) (FP.Core.decode FP.Core.b64 M))) = T at S3 D3 w2 w3 n3
  refine ⟨lN T, ?_, ?_⟩
  · rw [k_neg h ha, zl_0, S1, zl_0, S2, zl_0, S3, zl_0, zr_e]
  · unfold at_T
    rw [k_finite2 h' hb, if_neg fb, zl_0, if_neg one0, snl_ok ha (fo_nn2 fa), snl_ok hb (fo_nn2 fb), show (!false) = true from rfl, zc_t, zo_s, zc_t, u_nat, u_nat, D1, N1, zc_t, D2, n64_ok y2 y3, zc_t, D3, n64_ok w2 w3, zc_t, k_d2lN h' w2 n3, zl_0, zr_e]
theorem at_63 (h h' : mz_H) {a0 ar : Option Nat} (e0 : mz_fR h a0 4 0 = some ar) {i i' : Int32} {va vb : Int64} (ea : mz_aJ h ar i = some va) (eb : mz_aJ h ar i' = some vb) {P Q : Nat} (hP : P < 2 ^ 64) (hQ : Q < 2 ^ 64) (fP : b_E P ≠ 2047) (fQ : b_E Q ≠ 2047) (hPQ : P = Q ∨ (b_A P = 0 ∧ b_A Q = 0)) :
    ∃ r, fn_X5_curveAt_b63 h a0 (lN P) i i' = some (r, h, 0, 0) ∧ (mz_call (fn_X12_isFinite h' va) fun v4 h => if v4 = 0 then mz_ret 9221120237041090560 h else if (Op.cmpValue (FP.dcmp (UInt64.ofNat Q) FP.dconst0) .l) = 0 then mz_ret va h else at_T h va vb (UInt64.ofNat Q)) = some (r, h', 0, 0) := by
  obtain ⟨a, ha, rfl⟩ := u_all va
  obtain ⟨b, hb, rfl⟩ := u_all vb
  have c := k_dcmp hQ (show 0 < 2 ^ 64 by decide) fQ (by decide)
  rw [m_V0] at c
  unfold fn_X5_curveAt_b63
  rw [e0, zo_s, ea, zo_s, zo_s, eb, zo_s, k_zero h hP, zl_0, k_finite2 h' ha, zl_0, show FP.dconst0 = UInt64.ofNat 0 from rfl, c]
  simp only [cv_eq, b_V_0]
  by_cases z : b_A P = 0
  · have zQ : b_A Q = 0 := by
      rcases hPQ with e | e
      · rw [← e]
        exact z
      · exact e.2
    rw [if_pos z, if_neg one0, k_finite h ha, zl_0]
    by_cases fa : b_E a = 2047
    · rw [if_pos fa, if_pos rfl, if_pos rfl]
      exact ⟨_, rfl, rfl⟩
    · rw [if_neg fa, if_neg one0, if_neg one0, if_pos zQ]
      exact ⟨_, rfl, rfl⟩
  · have e : P = Q := hPQ.resolve_right (fun y => z y.1)
    subst e
    rw [if_neg z, if_pos rfl, k_finite h ha, zl_0]
    by_cases fa : b_E a = 2047
    · rw [if_pos fa, if_pos rfl, if_pos rfl]
      exact ⟨_, rfl, rfl⟩
    · rw [if_neg fa, if_neg one0, if_neg one0, if_neg z, k_finite h hb, zl_0]
      by_cases fb : b_E b = 2047
      · rw [if_pos fb, if_pos rfl]
        refine ⟨9221120237041090560, rfl, ?_⟩
        unfold at_T
        rw [k_finite2 h' hb, if_pos fb, zl_0, if_pos rfl, zr_e]
      · rw [if_neg fb, if_neg one0]
        exact at_tail h h' ha hb hP fa fb fP z
section
variable {VB : Nat} {n m : Nat} {rs : mz_RS} {ad : mz_T → Nat} {lv : Nat → Int32} {mk : Nat → Nat} {mm : Nat → Nat → Nat × Nat} {gi : Nat → Nat → Nat → Int32} {go : Nat → Nat → Option Nat} {gj : Nat → Nat → Int64} {h : mz_H}
theorem at_curve (hR : mz_Rp VB n m rs ad lv mk mm gi go gj h) (w : mz_wo n m rs) (q sz : Nat) {o s N : Nat} (ho : o < m) (hs : s < mz_sl rs o) (h1 : rs.2.1 39 (16 * o + s) = 1) (h2 : rs.2.1 37 (16 * o + s) ≠ 2) (hl : mz_rl rs (16 * o + s) ≠ 0) (hN : N < 2 ^ 64) (f : b_E N ≠ 2047) :
    ∃ r, fn_X5_curveAt h (some (ad (20, o, s, 0))) (lN N) = some (r, h, 0, 0) ∧ fn_X12_at_b71 (mz_RH q sz rs) (some q) (lN N) (nI (16 * o + s)) = some (r, mz_RH q sz rs, 0, 0) := by
  have h16 := (mz_sl_le w ho).1
  have hm60 := w.1
  obtain ⟨h30, e40⟩ := rl_le w ho hs
  have ca := ca_21 hR ho hs h1 h2
  have cl := cl_21a hR ho hs h1 h2
  generalize hlen : mz_rl rs (16 * o + s) = len at *
  obtain ⟨F, L, hF, hL, fF, fL, K1, K2, hFL, hp⟩ := k_both h (mz_RH q sz rs) hN f
  obtain ⟨P, Q, hP, hQ, fP, fQ, S, D, N64, hPQ⟩ := at_part h hN f hF fF hFL hp
  have ecast : FP.d2l (UInt64.ofNat L) = FP.d2l (UInt64.ofNat F) := by
    rcases hFL with rfl | ⟨-, rfl, rfl⟩
    · rfl
    · decide +kernel
  obtain ⟨i, hi, M1, M2⟩ := k_fmod h (FP.d2l (UInt64.ofNat F)) (show 1 ≤ len by omega) (show len < 1000 by omega)
  have e64 : (nI len).toInt64 = lN len := nI_l (by omega)
  have hne : ¬ lN len = 0 := fun z => by
    have := (u_inj (show len < 2 ^ 64 by omega) (show 0 < 2 ^ 64 by decide)).mp z
    omega
  have cl' : mz_len h (some (ad (21, o, s, 0))) 1 = some (nI len) := cl
  have ca' : ∀ c, c < len → mz_aJ h (some (ad (21, o, s, 0))) (nI c) = some (rs.2.2 43 (900 * (16 * o + s) + c)) := fun c hc => by
    rw [ca, ix_nI hc (by omega), cl_nI (by omega), if_pos rfl]
    simp only [if_pos hc]
  have ra' : ∀ c, c < len → mz_aJ (mz_RH q sz rs) (some (q + 29)) (nI (900 * (16 * o + s) + c)) = some (rs.2.2 43 (900 * (16 * o + s) + c)) := fun c hc => by
    rw [ra_43, ix_nI (show 900 * (16 * o + s) + c < 864000 by omega) (show 864000 < 2 ^ 31 by omega), cl_nI (show 900 * (16 * o + s) + c < 2 ^ 31 by omega), if_pos rfl]
  have r40 : mz_aI (mz_RH q sz rs) (some (q + 26)) 0 (nI (16 * o + s)) = some (nI len) := by
    rw [ra_40, ix_nI (show 16 * o + s < 960 by omega) (show 960 < 2 ^ 31 by omega), cl_nI (show 16 * o + s < 2 ^ 31 by omega), if_pos rfl, e40]
  have r39 : mz_aI (mz_RH q sz rs) (some (q + 25)) 2 (nI (16 * o + s)) = some 1 := by
    rw [ra_39, ix_nI (show 16 * o + s < 960 by omega) (show 960 < 2 ^ 31 by omega), cl_nI (show 16 * o + s < 2 ^ 31 by omega), if_pos rfl, h1]
  have e173 : ∃ r, (if nI len ≤ nI i + 1 then fn_X5_curveAt_b63 h (some (ad (20, o, s, 0))) (lN P) (nI i) 0 else fn_X5_curveAt_b63 h (some (ad (20, o, s, 0))) (lN P) (nI i) (nI i + 1)) = some (r, h, 0, 0) ∧ fn_X12_at_b173 (mz_RH q sz rs) (some q) (nI (16 * o + s)) (UInt64.ofNat Q) (lN i) = some (r, mz_RH q sz rs, 0, 0) := by
    unfold fn_X12_at_b173
    rw [lN_i, zo_s, rr_43, zo_s, l900, ra' i hi, zo_s, nI_1]
    obtain ⟨vf, hvf⟩ : ∃ vf, fn_X12_isFinite (mz_RH q sz rs) (rs.2.2 43 (900 * (16 * o + s) + i)) = some (vf, mz_RH q sz rs, 0, 0) := by
      obtain ⟨na, hna, ea⟩ := u_all (rs.2.2 43 (900 * (16 * o + s) + i))
      rw [ea, k_finite2 _ hna]
      exact ⟨_, rfl⟩
    by_cases g : i + 1 = len
    · obtain ⟨r, r1, r2⟩ := at_63 h (mz_RH q sz rs) (cg_20_0 hR ho hs h1 h2) (ca' i hi) (ca' 0 (by omega)) hP hQ fP fQ hPQ
      rw [if_pos (show nI len ≤ nI (i + 1) by rw [g]; exact Int32.le_refl _)]
      refine ⟨r, r1, ?_⟩
      have e246 : fn_X12_at_b246 (mz_RH q sz rs) (UInt64.ofNat Q) (rs.2.2 43 (900 * (16 * o + s) + i)) (some (q + 29)) (900 * nI (16 * o + s)) 0 = at_T (mz_RH q sz rs) (rs.2.2 43 (900 * (16 * o + s) + i)) (rs.2.2 43 (900 * (16 * o + s) + 0)) (UInt64.ofNat Q) := by
        show mz_op (mz_aJ (mz_RH q sz rs) (some (q + 29)) (900 * nI (16 * o + s) + nI 0)) _ = _
        rw [l900, ra' 0 (by omega), zo_s]
        rfl
      rw [← r2]
      simp only [hvf, zl_0, rr_43, rr_40, r40, zo_s, if_pos (show nI (i + 1) = nI len by rw [g]), e246]
    · obtain ⟨r, r1, r2⟩ := at_63 h (mz_RH q sz rs) (cg_20_0 hR ho hs h1 h2) (ca' i hi) (ca' (i + 1) (by omega)) hP hQ fP fQ hPQ
      rw [if_neg (nI_ge (show i + 1 < len by omega) (by omega))]
      refine ⟨r, r1, ?_⟩
      have e246 : fn_X12_at_b246 (mz_RH q sz rs) (UInt64.ofNat Q) (rs.2.2 43 (900 * (16 * o + s) + i)) (some (q + 29)) (900 * nI (16 * o + s)) (nI (i + 1)) = at_T (mz_RH q sz rs) (rs.2.2 43 (900 * (16 * o + s) + i)) (rs.2.2 43 (900 * (16 * o + s) + (i + 1))) (UInt64.ofNat Q) := by
        show mz_op (mz_aJ (mz_RH q sz rs) (some (q + 29)) (900 * nI (16 * o + s) + nI (i + 1))) _ = _
        rw [l900, ra' (i + 1) (by omega), zo_s]
        rfl
      rw [← r2]
      simp only [hvf, zl_0, rr_43, rr_40, r40, zo_s, if_neg (nI_ne (show i + 1 ≠ len by omega) (by omega) (by omega)), e246]
  obtain ⟨r, r1, r2⟩ := e173
  refine ⟨r, ?_, ?_⟩
  · unfold fn_X5_curveAt
    rw [cg_20_0 hR ho hs h1 h2, zo_s, cl', zo_s, if_neg (nI_ne0 (by omega) (by omega)), K1, zl_0, k_neg h hF, zl_0, S, zl_0, k_cast h hF fF, zl_0, cg_20_0 hR ho hs h1 h2, zo_s, cl', zo_s, e64, M1, zl_0, lN_i, zo_s, cg_20_0 hR ho hs h1 h2, zo_s, cl', zo_s]
    exact r1
  · unfold fn_X12_at_b71
    rw [rr_39, zo_s, r39, zo_s, if_neg one0, rr_40, zo_s, r40, zo_s, if_neg (nI_ne0 (by omega) (by omega)), snl_ok hN (fo_nn2 f), show (!false) = true from rfl, zc_t, zo_s, u_nat, K2, zl_0, D, N64, zc_t, zo_s, rr_40, zo_s, r40, zo_s, e64, decide_eq_true hne, zc_t, zo_s, ecast]
    rcases M2 with ⟨m1, m2⟩ | ⟨m1, m2⟩
    · rw [if_pos m1, m2]
      exact r2
    · rw [if_neg m1, zo_s, r40, zo_s, e64, m2]
      exact r2
end
theorem k_at {VB o q l : Nat} {rs : mz_RS} {h : mz_H} (H : mz_In VB o (l + 1) rs h) (x y : Int32) (z : Int64) : mz_Ok VB o q l rs (fun h => fn_X11_at h (some o) x y z) (fun h => fn_X12_at h (some q) x y z) h := by
  refine ok_flt H (fun _ => rfl) (fun _ => rfl) (fun h1 H1 => ?_)
  clear H
  revert H1
  generalize mz_si rs 0 0 = rs
  clear h
  intro H
  generalize h1 = h at H ⊢
  obtain ⟨n, m, ad, lv, mk, mm, gi, go, gj, hR, w⟩ := id H
  obtain ⟨wc, wm, wo, wt, wl, wq, wa, wv⟩ := id w
  obtain rfl : ad (1, 0, 0, 0) = o := wa
  have hn40 := wc.1
  have hm60 := wo.1
  rcases mz_noS wo x y with hx | ⟨a, s, ha, hs, rfl, rfl⟩
  · exact mz_Ok.same H 9221120237041090560 (by simp only [ci_1 hR, cs_slotOf_no hR wo hx, zo_s, zc_t, zl_0, zr_e, z_0, z_1, if_true]) (by simp only [mz_RH_is, rs_isSlot_no q h.2 wo hx, zo_s, zc_t, zl_0, zr_e, z_0, z_1, if_true])
  have h16 := (mz_sl_le wo ha).1
  have h30 := (rl_le wo ha hs).1
  have e40 := (rl_le wo ha hs).2
  obtain ⟨N, hN, rfl⟩ := u_all z
  by_cases f : b_E N = 2047
  · exact mz_Ok.same H 9221120237041090560 (by simp only [ci_1 hR, cs_slotOf hR wo ha hs, if_neg smn, k_finite _ hN, if_pos f, zo_s, zc_t, zl_0, zr_e, z_0, z_1, if_true]) (by simp only [mz_RH_is, rs_isSlot q h.2 wo ha hs, if_neg one0, k_finite2 _ hN, if_pos f, zo_s, zc_t, zl_0, zr_e, z_0, z_1, if_true])
  by_cases c1 : rs.2.1 37 (16 * a + s) = 1
  case neg => exact mz_Ok.same H 9221120237041090560 (by simp only [ci_1 hR, cs_slotOf hR wo ha hs, if_neg smn, k_finite _ hN, if_neg f, if_neg one0, cg_19_2 hR ha hs, if_neg c1, zo_s, zc_t, zl_0, zr_e, z_0, z_1, if_true]) (by simp only [mz_RH_is, rs_isSlot q h.2 wo ha hs, if_neg one0, k_finite2 _ hN, if_neg f, l16, rr_37, ra_37, ix_nI (show 16 * a + s < 960 by omega) (show 960 < 2 ^ 31 by omega), cl_nI (show 16 * a + s < 2 ^ 31 by omega), if_neg c1, zo_s, zc_t, zl_0, zr_e, z_0, z_1, if_true])
  have c2 : rs.2.1 37 (16 * a + s) ≠ 2 := by
    rw [c1]
    decide
  by_cases c3 : rs.2.1 36 (16 * a + s) = 5 ∨ rs.2.1 36 (16 * a + s) = 6
  case neg =>
    have c4 : ¬ rs.2.1 36 (16 * a + s) = 5 := fun y => c3 (Or.inl y)
    have c5 : ¬ rs.2.1 36 (16 * a + s) = 6 := fun y => c3 (Or.inr y)
    exact mz_Ok.same H 9221120237041090560 (by simp only [ci_1 hR, cs_slotOf hR wo ha hs, if_neg smn, k_finite _ hN, if_neg f, if_neg one0, cg_19_2 hR ha hs, if_pos c1, cg_19_1 hR ha hs, if_neg c4, if_neg c5, zo_s, zc_t, zl_0, zr_e, z_0, z_1, if_true]) (by simp only [mz_RH_is, rs_isSlot q h.2 wo ha hs, if_neg one0, k_finite2 _ hN, if_neg f, l16, rr_37, ra_37, rr_36, ra_36, ix_nI (show 16 * a + s < 960 by omega) (show 960 < 2 ^ 31 by omega), cl_nI (show 16 * a + s < 2 ^ 31 by omega), if_pos c1, if_neg c4, if_neg c5, zo_s, zc_t, zl_0, zr_e, z_0, z_1, if_true])
  have hif : ∀ (A : mz_Res Int64), (if rs.2.1 36 (16 * a + s) = 5 then A else if rs.2.1 36 (16 * a + s) = 6 then A else mz_ret 9221120237041090560 h) = A := fun A => by
    rcases c3 with y | y
    · rw [if_pos y]
    · rw [if_pos y]
      split <;> rfl
  have hif2 : ∀ (sz : Nat) (A : mz_Res Int64), (if rs.2.1 36 (16 * a + s) = 5 then A else if rs.2.1 36 (16 * a + s) = 6 then A else mz_ret 9221120237041090560 (mz_RH q sz rs)) = A := fun sz A => by
    rcases c3 with y | y
    · rw [if_pos y]
    · rw [if_pos y]
      split <;> rfl
  rcases (wo.2.2.2.1 a s ha hs).2.2.2.1 with h1 | h1
  · refine ok_failJ H 1 9221120237041090560 ?_ (fun sz => ?_)
    · simp only [ci_1 hR, cs_slotOf hR wo ha hs, if_neg smn, k_finite _ hN, if_neg f, if_neg one0, cg_19_2 hR ha hs, if_pos c1, cg_19_1 hR ha hs, hif, zo_s, zc_t, zl_0]
      simp only [fn_X11_at_b61, ci_1 hR, cg_19_4 hR ha hs, if_neg (show ¬ (rs.2.1 39 (16 * a + s) = 1 ∧ rs.2.1 37 (16 * a + s) ≠ 2) from fun y => by rw [h1] at y; exact absurd y.1 (by decide)), zo_s, zc_t, if_true]
    · simp only [mz_RH_is, rs_isSlot q sz wo ha hs, if_neg one0, k_finite2 _ hN, if_neg f, l16, rr_37, ra_37, rr_36, ra_36, ix_nI (show 16 * a + s < 960 by omega) (show 960 < 2 ^ 31 by omega), cl_nI (show 16 * a + s < 2 ^ 31 by omega), if_pos c1, hif2, fn_X12_at_b71, fn_X12_at_b91, fn_X12_at_b108, rr_39, ra_39, h1, mz_RH_is, zo_s, zc_t, zl_0, if_true]
  by_cases hl : mz_rl rs (16 * a + s) = 0
  · have hl' : rs.2.1 40 (16 * a + s) = 0 := by
      rw [e40, hl]
      rfl
    refine ok_failJ H 6 9221120237041090560 ?_ (fun sz => ?_)
    · have cl := cl_21a hR ha hs h1 c2
      rw [hl] at cl
      have cl' : mz_len h (some (ad (21, a, s, 0))) 1 = some 0 := cl
      simp only [ci_1 hR, cs_slotOf hR wo ha hs, if_neg smn, k_finite _ hN, if_neg f, if_neg one0, cg_19_2 hR ha hs, if_pos c1, cg_19_1 hR ha hs, hif, zo_s, zc_t, zl_0]
      simp only [fn_X11_at_b61, ci_1 hR, cg_19_4 hR ha hs, if_pos (show rs.2.1 39 (16 * a + s) = 1 ∧ rs.2.1 37 (16 * a + s) ≠ 2 from ⟨h1, c2⟩), if_neg smn, cg_20_0 hR ha hs h1 c2, cl', zo_s, zc_t, if_true]
    · simp only [mz_RH_is, rs_isSlot q sz wo ha hs, if_neg one0, k_finite2 _ hN, if_neg f, l16, rr_37, ra_37, rr_36, ra_36, ix_nI (show 16 * a + s < 960 by omega) (show 960 < 2 ^ 31 by omega), cl_nI (show 16 * a + s < 2 ^ 31 by omega), if_pos c1, hif2, fn_X12_at_b71, fn_X12_at_b91, fn_X12_at_b108, rr_39, ra_39, rr_40, ra_40, h1, hl', mz_RH_is, zo_s, zc_t, zl_0, if_true]
  obtain ⟨r, r1, r2⟩ := at_curve hR wo q h.2 ha hs h1 c2 hl hN f
  have cl : mz_len h (some (ad (21, a, s, 0))) 1 = some (nI (mz_rl rs (16 * a + s))) := cl_21a hR ha hs h1 c2
  refine mz_Ok.same H r ?_ ?_
  · simp only [ci_1 hR, cs_slotOf hR wo ha hs, if_neg smn, k_finite _ hN, if_neg f, if_neg one0, cg_19_2 hR ha hs, if_pos c1, cg_19_1 hR ha hs, hif, zo_s, zc_t, zl_0]
    simp only [fn_X11_at_b61, ci_1 hR, cg_19_4 hR ha hs, if_pos (show rs.2.1 39 (16 * a + s) = 1 ∧ rs.2.1 37 (16 * a + s) ≠ 2 from ⟨h1, c2⟩), if_neg smn, cg_20_0 hR ha hs h1 c2, cl, if_neg (nI_ne0 (show 0 < mz_rl rs (16 * a + s) by omega) (by omega)), ci_20 hR ha hs h1 c2, r1, zo_s, zc_t, zl_0, zr_e, if_true]
  · simp only [mz_RH_is, rs_isSlot q h.2 wo ha hs, if_neg one0, k_finite2 _ hN, if_neg f, l16, rr_37, ra_37, rr_36, ra_36, ix_nI (show 16 * a + s < 960 by omega) (show 960 < 2 ^ 31 by omega), cl_nI (show 16 * a + s < 2 ^ 31 by omega), if_pos c1, hif2, r2, zo_s, zc_t, zl_0, if_true]

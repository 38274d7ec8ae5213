/-! row, inner -/
def mz_z8 (ln : Int32) : Int64 := if ln = 8 then -9 else 0
theorem cs_rowNew (h : mz_H) (ln : Int32) {N : Nat} (hN : N ≤ 30) : ∃ h', fn_X5_init (mz_nw h (.inr (4, [.null]))) (some h.2) (nI N) ln = some ((), h', 1, N) ∧ h'.2 = h.2 + 2 ∧ h'.1 h.2 = some (.inr (4, [.ref (h.2 + 1)])) ∧ h'.1 (h.2 + 1) = some (.inl (1, N, .inr (.inl (fun c => if c < N then mz_z8 ln else 0)))) ∧ ∀ a, a < h.2 → h'.1 a = h.1 a := by
  have c2 : (mz_nw (mz_nw h (.inr (4, [.null]))) (.inl (1, N, .inr (.inl (fun _ => 0))))).1 h.2 = some (.inr (4, [.null])) := (nw_ne _ _ (Nat.ne_of_lt (Nat.lt_succ_self _))).trans (nw_at _ _)
  obtain ⟨h3, k3, s3, c3, o3⟩ := pF_ex (k := 0) (v := va_rf (some (mz_nw h (.inr (4, [.null]))).2)) c2 (lt_rfl rfl)
  have s3' : h3.2 = h.2 + 2 := s3
  have g : mz_fR h3 (some h.2) 4 0 = some (some (h.2 + 1)) := fR_of (r := some (h.2 + 1)) c3 rfl
  have a3 : h3.1 (h.2 + 1) = some (.inl (1, N, .inr (.inl (fun _ => 0)))) := (o3 _ (by omega)).trans (nw_at (mz_nw h (.inr (4, [.null]))) _)
  by_cases c8 : ln = 8
  · obtain ⟨h4, k4, s4, o4, c4⟩ := cs_fillJ (a := h.2 + 1) (show N < 1000 by omega) (-9) N 0 1001 h3 _ (by omega) (by omega) a3
    have k4' : fn_J_fillJ_b6 1001 h3 (some (h.2 + 1)) (-9) 0 (nI N) = some ((), h4, 0, 0) := k4
    refine ⟨h4, ?_, by omega, ?_, ?_, fun a ha => ?_⟩
    · simp only [fn_X5_init, Option.isSome, if_neg (nI_pos (show N < 2 ^ 31 by omega)), zn_a (mz_nw h (.inr (4, [.null]))) 1 (show N ≤ 1000000 by omega), k3, if_pos c8, g, fn_J_fillJ, len_of a3, k4', za_s, zo_s, zc_t, zl_0, zr_e, z_0, z_1, if_true]
      simp only [Nat.zero_add]
    · rw [o4 _ (by omega), c3]
      rfl
    · rw [c4]
      refine congrArg (fun f => some (Sum.inl (1, N, Sum.inr (Sum.inl f)))) (funext fun c => ?_)
      by_cases hc : c < N
      · rw [if_pos hc, if_pos ⟨Nat.zero_le _, hc⟩, mz_z8, if_pos c8]
      · rw [if_neg hc, if_neg fun q => hc q.2]
    · rw [o4 _ (by omega), o3 _ (by omega)]
      exact (nw_ne _ _ (Nat.ne_of_lt (Nat.lt_succ_of_lt ha))).trans (nw_ne _ _ (by omega))
  · refine ⟨h3, ?_, by omega, c3, ?_, fun a ha => ?_⟩
    · simp only [fn_X5_init, Option.isSome, if_neg (nI_pos (show N < 2 ^ 31 by omega)), zn_a (mz_nw h (.inr (4, [.null]))) 1 (show N ≤ 1000000 by omega), k3, if_neg c8, za_s, zo_s, zc_t, zl_0, zr_e, z_0, z_1, if_true]
      simp only [Nat.zero_add]
    · rw [a3]
      refine congrArg (fun f => some (Sum.inl (1, N, Sum.inr (Sum.inl f)))) (funext fun c => ?_)
      rw [mz_z8, if_neg c8, ite_self]
    · rw [o3 _ (by omega)]
      exact (nw_ne _ _ (Nat.ne_of_lt (Nat.lt_succ_of_lt ha))).trans (nw_ne _ _ (by omega))
theorem rs_clear (q sz : Nat) (rs : mz_RS) {Q B N : Nat} (hQ : Q < 960) (hB : B + N ≤ 900) : ∀ (d x f : Nat) (F : Nat → Int64), x + d = N → d < f → fn_X12_clear_b3 f (mz_RH q sz (mz_q3 rs F)) (some q) (nI Q) (nI B) (nI N) (nI x) = some ((), mz_RH q sz (mz_q3 rs (fun p => if 900 * Q + B + x ≤ p ∧ p < 900 * Q + B + N then mz_z8 (rs.2.1 36 Q) else F p)), 0, 0) := by
  intro d
  induction d with
  | zero =>
    intro x f F hx hf
    obtain ⟨f, rfl⟩ : ∃ g', f = g' + 1 := ⟨f - 1, by omega⟩
    have e : F = (fun p => if 900 * Q + B + x ≤ p ∧ p < 900 * Q + B + N then mz_z8 (rs.2.1 36 Q) else F p) := funext fun p => (if_neg (by omega)).symm
    rw [← e]
    simp only [fn_X12_clear_b3, if_pos (nI_le (show N ≤ x by omega) (by omega)), zo_s, zc_t, zl_0, zr_e, z_0, z_1, if_true]
  | succ d ih =>
    intro x f F hx hf
    obtain ⟨f, rfl⟩ : ∃ g', f = g' + 1 := ⟨f - 1, by omega⟩
    have I := ih (x + 1) f (vp_updL F (900 * Q + B + x) (mz_z8 (rs.2.1 36 Q))) (by omega) (by omega)
    rw [show nI (x + 1) = nI x + 1 from (nI_add x 1).symm] at I
    have e : (fun p => if 900 * Q + B + (x + 1) ≤ p ∧ p < 900 * Q + B + N then mz_z8 (rs.2.1 36 Q) else vp_updL F (900 * Q + B + x) (mz_z8 (rs.2.1 36 Q)) p) = (fun p => if 900 * Q + B + x ≤ p ∧ p < 900 * Q + B + N then mz_z8 (rs.2.1 36 Q) else F p) := funext fun p => by
      by_cases hp : p = 900 * Q + B + x
      · subst hp
        rw [if_neg (by omega), if_pos (by omega), pk_uLs]
      · rw [pk_uLn hp]
        by_cases h2 : 900 * Q + B + x ≤ p ∧ p < 900 * Q + B + N
        · rw [if_pos h2, if_pos (by omega)]
        · rw [if_neg h2, if_neg (by omega)]
    rw [e] at I
    have ix : (900 : Int32) * nI Q + nI B + nI x = nI (900 * Q + B + x) := by rw [l900, nI_add]
    have e36 : (mz_q3 rs F).2.1 36 Q = rs.2.1 36 Q := rfl
    by_cases c8 : rs.2.1 36 Q = 8
    · rw [show mz_z8 (rs.2.1 36 Q) = -9 from if_pos c8] at I ⊢
      simp only [fn_X12_clear_b3, if_neg (nI_ge (show x < N by omega) (show N < 2 ^ 31 by omega)), rr_43, rr_36, ra_36, ix_nI (show Q < 960 by omega) (show 960 < 2 ^ 31 by omega), cl_nI (show Q < 2 ^ 31 by omega), e36, if_pos c8, fn_X12_clear_b41, rw_43, ix, ix_nI (show 900 * Q + B + x < 864000 by omega) (show 864000 < 2 ^ 31 by omega), cl_nI (show 900 * Q + B + x < 2 ^ 31 by omega), q3_s, I, zo_s, if_true]
    · rw [show mz_z8 (rs.2.1 36 Q) = 0 from if_neg c8] at I ⊢
      simp only [fn_X12_clear_b3, if_neg (nI_ge (show x < N by omega) (show N < 2 ^ 31 by omega)), rr_43, rr_36, ra_36, ix_nI (show Q < 960 by omega) (show 960 < 2 ^ 31 by omega), cl_nI (show Q < 2 ^ 31 by omega), e36, if_neg c8, fn_X12_clear_b41, rw_43, ix, ix_nI (show 900 * Q + B + x < 864000 by omega) (show 864000 < 2 ^ 31 by omega), cl_nI (show 900 * Q + B + x < 2 ^ 31 by omega), q3_s, I, zo_s, if_true]
theorem rs_clear' (q sz : Nat) (rs : mz_RS) {Q B N : Nat} (hQ : Q < 960) (hB : B + N ≤ 900) : fn_X12_clear (mz_RH q sz rs) (some q) (nI Q) (nI B) (nI N) = some ((), mz_RH q sz (mz_q3 rs (fun p => if 900 * Q + B ≤ p ∧ p < 900 * Q + B + N then mz_z8 (rs.2.1 36 Q) else rs.2.2 43 p)), 0, 0) := by
  have I := rs_clear q sz rs hQ hB N 0 1001 (rs.2.2 43) (by omega) (by omega)
  rw [← q3_id rs] at I
  exact I
theorem rs_rowF (q sz : Nat) (rs : mz_RS) {Q N : Nat} (hQ : Q < 960) (hN : N ≤ 30) : ∀ (d x f : Nat) (F : Nat → Int32), x + d = N → d < f → fn_X12_row_b97 f (mz_RH q sz (mz_qa rs 41 F)) (some q) (nI N) (nI Q) (nI x) = some (1, mz_RH q sz (mz_qa rs 41 (fun p => if 30 * Q + x ≤ p ∧ p < 30 * Q + N then 0 else F p)), 0, 0) := by
  intro d
  induction d with
  | zero =>
    intro x f F hx hf
    obtain ⟨f, rfl⟩ : ∃ g', f = g' + 1 := ⟨f - 1, by omega⟩
    have e : F = (fun p => if 30 * Q + x ≤ p ∧ p < 30 * Q + N then 0 else F p) := funext fun p => (if_neg (by omega)).symm
    rw [← e]
    simp only [fn_X12_row_b97, if_pos (nI_le (show N ≤ x by omega) (by omega)), zo_s, zc_t, zl_0, zr_e, z_0, z_1, if_true]
  | succ d ih =>
    intro x f F hx hf
    obtain ⟨f, rfl⟩ : ∃ g', f = g' + 1 := ⟨f - 1, by omega⟩
    have I := ih (x + 1) f (upd F (30 * Q + x) 0) (by omega) (by omega)
    rw [show nI (x + 1) = nI x + 1 from (nI_add x 1).symm] at I
    have e : (fun p => if 30 * Q + (x + 1) ≤ p ∧ p < 30 * Q + N then 0 else upd F (30 * Q + x) 0 p) = (fun p => if 30 * Q + x ≤ p ∧ p < 30 * Q + N then 0 else F p) := funext fun p => by
      by_cases hp : p = 30 * Q + x
      · subst hp
        rw [if_neg (by omega), if_pos (by omega), pk_us]
      · rw [pk_un hp]
        by_cases h2 : 30 * Q + x ≤ p ∧ p < 30 * Q + N
        · rw [if_pos h2, if_pos (by omega)]
        · rw [if_neg h2, if_neg (by omega)]
    rw [e] at I
    have z01 : (0 : Int32) &&& 1 = 0 := by decide
    simp only [fn_X12_row_b97, if_neg (nI_ge (show x < N by omega) (show N < 2 ^ 31 by omega)), rr_41, rw_41, l30, ix_nI (show 30 * Q + x < 28800 by omega) (show 28800 < 2 ^ 31 by omega), cl_nI (show 30 * Q + x < 2 ^ 31 by omega), z01, qa_s, I, zo_s, if_true]
section
variable {VB : Nat} {n m : Nat} {rs : mz_RS} {ad : mz_T → Nat} {lv : Nat → Int32} {mk : Nat → Nat} {mm : Nat → Nat → Nat × Nat} {gi : Nat → Nat → Nat → Int32} {go : Nat → Nat → Option Nat} {gj : Nat → Nat → Int64} {h : mz_H}
theorem keepSA {rs' : mz_RS} {ad' : mz_T → Nat} (w : mz_wo n m rs) {o s : Nat} (hs16 : s < 16) (A : mz_aw rs rs' (16 * o + s)) (i j k : Nat) (hij : ¬ (i = o ∧ j = s)) (ea : ∀ f k', ad' (f, i, j, k') = ad (f, i, j, k')) :
    mz_f19 n m rs' ad' lv mk mm gi go gj i j k = mz_f19 n m rs ad lv mk mm gi go gj i j k ∧ mz_f20 n m rs' ad' lv mk mm gi go gj i j k = mz_f20 n m rs ad lv mk mm gi go gj i j k ∧ mz_f21 n m rs' ad' lv mk mm gi go gj i j k = mz_f21 n m rs ad lv mk mm gi go gj i j k ∧ mz_f22 n m rs' ad' lv mk mm gi go gj i j k = mz_f22 n m rs ad lv mk mm gi go gj i j k ∧ mz_f23 n m rs' ad' lv mk mm gi go gj i j k = mz_f23 n m rs ad lv mk mm gi go gj i j k ∧ mz_f24 n m rs' ad' lv mk mm gi go gj i j k = mz_f24 n m rs ad lv mk mm gi go gj i j k := by
  obtain ⟨k1, k2, k3, k4, k5, k6⟩ := keepS (ad := ad) (lv := lv) (mk := mk) (mm := mm) (gi := gi) (go := go) (gj := gj) w hs16 A i j k hij
  refine ⟨Eq.trans ?_ k1, Eq.trans ?_ k2, k3, Eq.trans ?_ k4, Eq.trans ?_ k5, k6⟩
  · unfold mz_f19; rw [ea 20 0, ea 22 0]
  · unfold mz_f20; rw [ea 21 0]
  · unfold mz_f22; simp only [ea]
  · unfold mz_f23; rw [ea 24 k]
def mz_r1 (rs : mz_RS) (Q N : Nat) : mz_RS := mz_q3 (mz_sa (mz_sa rs 39 Q 1) 40 Q (nI N)) (fun p => if 900 * Q + 0 ≤ p ∧ p < 900 * Q + 0 + N then mz_z8 (rs.2.1 36 Q) else rs.2.2 43 p)
theorem aw_r1 {Q N : Nat} (hN : N ≤ 30) : mz_aw rs (mz_r1 rs Q N) Q := by
  refine ⟨rfl, fun p hp => ⟨rfl, rfl, rfl, rfl, pk_un hp, pk_un hp⟩, fun p i hp hi => ⟨rfl, rfl⟩, fun p i hp hi => ?_⟩
  show (if _ then _ else rs.2.2 43 (900 * p + i)) = _
  exact if_neg (by omega)
theorem cw_row1 (hR : mz_Rp VB n m rs ad lv mk mm gi go gj h) (w : mz_wo n m rs) {o s N : Nat} (ho : o < m) (hs : s < mz_sl rs o) (h2 : rs.2.1 37 (16 * o + s) ≠ 2) (hN : N ≤ 30) (hv : h.2 + 2 ≤ VB) : ∃ h', fn_X6_fillAnew h (some (ad (19, o, s, 0))) (nI N) = some ((), h', 2, N + 1) ∧ mz_Rp VB n m (mz_r1 rs (16 * o + s) N) (mz_ap (mz_ap ad (20, o, s, 0) h.2) (21, o, s, 0) (h.2 + 1)) lv mk mm gi go gj h' ∧ h'.2 = h.2 + 2 := by
  have h16 := (mz_sl_le w ho).1
  have A := aw_r1 (rs := rs) (Q := 16 * o + s) hN
  obtain ⟨h1, k1, s1, c1, c2, o1⟩ := cs_rowNew h (rs.2.1 36 (16 * o + s)) hN
  have b19 := cb_19 hR ho hs
  have c19 := cc_19 hR ho hs
  have c19a : (mz_nw h (.inr (4, [.null]))).1 (ad (19, o, s, 0)) = _ := (nw_ne _ _ (by omega)).trans c19
  have g1 : mz_fI (mz_nw h (.inr (4, [.null]))) (some (ad (19, o, s, 0))) 5 1 = some (rs.2.1 36 (16 * o + s)) := fI_of c19a rfl
  have c19b : h1.1 (ad (19, o, s, 0)) = _ := (o1 _ b19).trans c19
  obtain ⟨hh, k2, s2, c3, o2⟩ := pF_ex (k := 4) (v := va_rf (some h.2)) c19b (lt_rfl rfl)
  have e39 : (mz_r1 rs (16 * o + s) N).2.1 39 (16 * o + s) = 1 := pk_us
  have e40 : (mz_r1 rs (16 * o + s) N).2.1 40 (16 * o + s) = nI N := pk_us
  have e37 : (mz_r1 rs (16 * o + s) N).2.1 37 (16 * o + s) = rs.2.1 37 (16 * o + s) := rfl
  have erl : mz_rl (mz_r1 rs (16 * o + s) N) (16 * o + s) = N := by unfold mz_rl; rw [e40, cl_nI (by omega)]
  refine ⟨hh, ?_, ?_, by omega⟩
  · simp only [fn_X6_fillAnew, cg_19_2 hR ho hs, if_neg h2, zn_o, g1, is_of (nw_at h (.inr (4, [.null]))), k1, k2, zl_s, za_s, zo_s, zc_t, zl_0, zr_e, z_0, z_1, if_true]
    simp only [Nat.zero_add, Nat.reduceAdd]
  refine hR.bulk (fun t => t = (20, o, s, 0) ∨ t = (21, o, s, 0)) (fun t => t = (19, o, s, 0)) (by omega) (by omega) (fun t ht => ?_) (fun t ht => ?_) (fun t t' q1 q2 e => ?_) (fun a ha hC => ?_) (fun f i j k' e hN' he => ?_) (fun f i j k' e hC _ he => ?_) ?_
  · rw [ap_ne _ _ (fun q => ht (Or.inr q)), ap_ne _ _ (fun q => ht (Or.inl q))]
  · rcases ht with rfl | rfl
    · rw [ap_ne _ _ (by simp), ap_at]
      omega
    · rw [ap_at]
      omega
  · rcases q1 with rfl | rfl <;> rcases q2 with rfl | rfl
    · rfl
    · rw [ap_ne _ _ (by simp), ap_at, ap_at] at e
      omega
    · rw [ap_ne _ _ (by simp : ((20, o, s, 0) : mz_T) ≠ (21, o, s, 0)), ap_at, ap_at] at e
      omega
    · rfl
  · rw [o2 _ (hC _ rfl), o1 _ ha]
  · rcases hN' with q | q
    · cases q
      have he' : mz_f20 n m (mz_r1 rs (16 * o + s) N) (mz_ap (mz_ap ad (20, o, s, 0) h.2) (21, o, s, 0) (h.2 + 1)) lv mk mm gi go gj o s 0 = some e := he
      rw [mz_f20, if_pos ⟨ho, hs, rfl, e39, h2⟩, ap_at] at he'
      cases he'
      rw [ap_ne _ _ (by simp), ap_at, o2 _ (by omega), c1]
    · cases q
      have he' : mz_f21 n m (mz_r1 rs (16 * o + s) N) (mz_ap (mz_ap ad (20, o, s, 0) h.2) (21, o, s, 0) (h.2 + 1)) lv mk mm gi go gj o s 0 = some e := he
      rw [mz_f21, if_pos ⟨ho, hs, rfl, e39, h2⟩, erl] at he'
      cases he'
      rw [ap_at, o2 _ (by omega), c2]
      refine congrArg (fun f => some (Sum.inl (1, N, Sum.inr (Sum.inl f)))) (funext fun c => ?_)
      by_cases hc : c < N
      · rw [if_pos hc, if_pos hc]
        exact (if_pos (by omega)).symm
      · rw [if_neg hc, if_neg hc]
  · cases hC
    have he' : mz_f19 n m (mz_r1 rs (16 * o + s) N) (mz_ap (mz_ap ad (20, o, s, 0) h.2) (21, o, s, 0) (h.2 + 1)) lv mk mm gi go gj o s 0 = some e := he
    rw [mz_f19, if_pos ⟨ho, hs, rfl⟩, if_pos ⟨e39, h2⟩, if_neg (fun z => h2 z.2), ap_ne _ _ (by simp), ap_at] at he'
    cases he'
    refine ⟨?_, b19⟩
    have e5 : (if rs.2.1 39 (16 * o + s) = 1 ∧ rs.2.1 37 (16 * o + s) = 2 then some (ad (22, o, s, 0)) else none) = none := if_neg fun z => h2 z.2
    rw [c3, e5]
    rfl
  · have ea : ∀ i j, ¬ (i = o ∧ j = s) → ∀ f k', mz_ap (mz_ap ad (20, o, s, 0) h.2) (21, o, s, 0) (h.2 + 1) (f, i, j, k') = ad (f, i, j, k') := fun i j hij f k' => by
      rw [ap_ne _ _ (by simp; intro _ a b; exact absurd ⟨a, b⟩ hij), ap_ne _ _ (by simp; intro _ a b; exact absurd ⟨a, b⟩ hij)]
    apply mz_hb <;> first | (exact fun _ _ _ _ => Or.inl rfl) | skip
    · intro i j k' hq
      by_cases hij : i = o ∧ j = s
      · obtain ⟨rfl, rfl⟩ := hij
        exact Or.inr (if_neg fun z => hq.2 (by rw [z.2.2]))
      · exact Or.inl (keepSA w (show s < 16 by omega) A i j k' hij (ea i j hij)).1
    · intro i j k' hq
      by_cases hij : i = o ∧ j = s
      · obtain ⟨rfl, rfl⟩ := hij
        exact Or.inr (if_neg fun z => hq.1 (Or.inl (by rw [z.2.2.1])))
      · exact Or.inl (keepSA w (show s < 16 by omega) A i j k' hij (ea i j hij)).2.1
    · intro i j k' hq
      by_cases hij : i = o ∧ j = s
      · obtain ⟨rfl, rfl⟩ := hij
        exact Or.inr (if_neg fun z => hq.1 (Or.inr (by rw [z.2.2.1])))
      · exact Or.inl (keepSA w (show s < 16 by omega) A i j k' hij (ea i j hij)).2.2.1
    · intro i j k' hq
      by_cases hij : i = o ∧ j = s
      · obtain ⟨rfl, rfl⟩ := hij
        exact Or.inr (if_neg fun z => h2 z.2.2.2.2)
      · exact Or.inl (keepSA w (show s < 16 by omega) A i j k' hij (ea i j hij)).2.2.2.1
    · intro i j k' hq
      by_cases hij : i = o ∧ j = s
      · obtain ⟨rfl, rfl⟩ := hij
        exact Or.inr (if_neg fun z => h2 z.2.2.2.1)
      · exact Or.inl (keepSA w (show s < 16 by omega) A i j k' hij (ea i j hij)).2.2.2.2.1
    · intro i j k' hq
      by_cases hij : i = o ∧ j = s
      · obtain ⟨rfl, rfl⟩ := hij
        exact Or.inr (if_neg fun z => h2 z.2.2.2.1)
      · exact Or.inl (keepSA w (show s < 16 by omega) A i j k' hij (ea i j hij)).2.2.2.2.2
theorem wo_r1 (w : mz_wo n m rs) {o s N : Nat} (ho : o < m) (hs : s < mz_sl rs o) (h0 : ¬ rs.2.1 37 (16 * o + s) = 0) (h2 : rs.2.1 37 (16 * o + s) ≠ 2) (hN : N ≤ 30) : mz_wo n m (mz_r1 rs (16 * o + s) N) := by
  have h16 := (mz_sl_le w ho).1
  obtain ⟨a1, a2, a3, a4, a5, a6, a7⟩ := id w
  have p39 : ∀ p, p ≠ 16 * o + s → (mz_r1 rs (16 * o + s) N).2.1 39 p = rs.2.1 39 p := fun p hp => pk_un hp
  have p40 : ∀ p, p ≠ 16 * o + s → (mz_r1 rs (16 * o + s) N).2.1 40 p = rs.2.1 40 p := fun p hp => pk_un hp
  have prl : ∀ p, p ≠ 16 * o + s → mz_rl (mz_r1 rs (16 * o + s) N) p = mz_rl rs p := fun p hp => by unfold mz_rl; rw [p40 p hp]
  have e39 : (mz_r1 rs (16 * o + s) N).2.1 39 (16 * o + s) = 1 := pk_us
  have e40 : (mz_r1 rs (16 * o + s) N).2.1 40 (16 * o + s) = nI N := pk_us
  refine ⟨a1, a2, a3, fun o' s' b1 b2 => ?_, fun o' s' i b1 b2 b3 b4 b5 b6 => ?_, a6, fun o' s' i b1 b2 b3 b4 b5 => ?_⟩
  · obtain ⟨c1, c2, c3, c4, c5, c6⟩ := a4 o' s' b1 b2
    by_cases hp : 16 * o' + s' = 16 * o + s
    · refine ⟨c1, c2, c3, Or.inr ?_, ⟨N, hN, ?_⟩, fun e => absurd ?_ h0⟩
      · rw [hp]; exact e39
      · rw [hp]; exact e40
      · rw [← hp]; exact e
    · rw [p39 _ hp, p40 _ hp]
      exact ⟨c1, c2, c3, c4, c5, c6⟩
  · by_cases hp : 16 * o' + s' = 16 * o + s
    · exact absurd (hp ▸ b4) h2
    · rw [p39 _ hp] at b5
      rw [prl _ hp] at b6
      exact a5 o' s' i b1 b2 b3 b4 b5 b6
  · by_cases hp : 16 * o' + s' = 16 * o + s
    · intro e8
      have e8' : rs.2.1 36 (16 * o + s) = 8 := by rw [← hp]; exact e8
      left
      rw [hp] at b5 ⊢
      have hi : i < N := by unfold mz_rl at b5; rw [e40, cl_nI (by omega)] at b5; exact b5
      show (if 900 * (16 * o + s) + 0 ≤ 900 * (16 * o + s) + i ∧ 900 * (16 * o + s) + i < 900 * (16 * o + s) + 0 + N then mz_z8 (rs.2.1 36 (16 * o + s)) else rs.2.2 43 (900 * (16 * o + s) + i)) = -9
      rw [if_pos (by omega)]
      exact if_pos e8'
    · rw [p39 _ hp] at b4
      rw [prl _ hp] at b5
      have h30 := (rl_le w b1 b2).1
      have h16' := (mz_sl_le w b1).1
      have b2' : s' < mz_sl rs o' := b2
      have e : (mz_r1 rs (16 * o + s) N).2.2 43 (900 * (16 * o' + s') + i) = rs.2.2 43 (900 * (16 * o' + s') + i) := if_neg (by omega)
      rw [e]
      exact a7 o' s' i b1 b2 b3 b4 b5
def mz_r2 (rs : mz_RS) (Q N : Nat) : mz_RS := mz_qa (mz_sa (mz_sa rs 39 Q 1) 40 Q (nI N)) 41 (fun p => if 30 * Q + 0 ≤ p ∧ p < 30 * Q + N then 0 else rs.2.1 41 p)
theorem aw_r2 {Q N : Nat} (hN : N ≤ 30) : mz_aw rs (mz_r2 rs Q N) Q := by
  refine ⟨rfl, fun p hp => ⟨rfl, rfl, rfl, rfl, pk_un hp, pk_un hp⟩, fun p i hp hi => ⟨?_, rfl⟩, fun p i hp hi => rfl⟩
  show (if _ then _ else rs.2.1 41 (30 * p + i)) = _
  exact if_neg (by omega)
theorem cw_row2 (hR : mz_Rp VB n m rs ad lv mk mm gi go gj h) (w : mz_wo n m rs) {o s N : Nat} (ho : o < m) (hs : s < mz_sl rs o) (h2 : rs.2.1 37 (16 * o + s) = 2) (hN : N ≤ 30) (hv : h.2 + 2 ≤ VB) : ∃ h', fn_X6_fillAnew h (some (ad (19, o, s, 0))) (nI N) = some ((), h', 1, N) ∧ mz_Rp VB n m (mz_r2 rs (16 * o + s) N) (mz_ap ad (22, o, s, 0) h.2) lv mk mm gi go gj h' ∧ h'.2 = h.2 + 1 := by
  have h16 := (mz_sl_le w ho).1
  have A := aw_r2 (rs := rs) (Q := 16 * o + s) hN
  have b19 := cb_19 hR ho hs
  have c19 := cc_19 hR ho hs
  have c19a : (mz_nw h (.inl (14, N, .inr (.inr (.inr (.inr (fun _ => none))))))).1 (ad (19, o, s, 0)) = _ := (nw_ne _ _ (by omega)).trans c19
  obtain ⟨hh, k2, s2, c3, o2⟩ := pF_ex (k := 5) (v := va_rf (some h.2)) c19a (lt_rfl rfl)
  have s2' : hh.2 = h.2 + 1 := s2
  have e39 : (mz_r2 rs (16 * o + s) N).2.1 39 (16 * o + s) = 1 := pk_us
  have e40 : (mz_r2 rs (16 * o + s) N).2.1 40 (16 * o + s) = nI N := pk_us
  have erl : mz_rl (mz_r2 rs (16 * o + s) N) (16 * o + s) = N := by unfold mz_rl; rw [e40, cl_nI (by omega)]
  have e41 : ∀ c, c < N → ¬ (mz_r2 rs (16 * o + s) N).2.1 41 (30 * (16 * o + s) + c) = 1 := fun c hc => by
    rw [show (mz_r2 rs (16 * o + s) N).2.1 41 (30 * (16 * o + s) + c) = 0 from if_pos (by omega)]
    decide
  refine ⟨hh, ?_, ?_, by omega⟩
  · simp only [fn_X6_fillAnew, cg_19_2 hR ho hs, if_pos h2, if_neg (nI_pos (show N < 2 ^ 31 by omega)), zn_a h 14 (show N ≤ 1000000 by omega), k2, za_s, zo_s, zc_t, zl_0, zr_e, z_0, z_1, if_true]
    simp only [Nat.zero_add]
  refine hR.bulk (fun t => t = (22, o, s, 0)) (fun t => t = (19, o, s, 0)) (by omega) (by omega) (fun t ht => ap_ne _ _ ht) (fun t ht => ?_) (fun t t' q1 q2 e => q1.trans q2.symm) (fun a ha hC => ?_) (fun f i j k' e hN' he => ?_) (fun f i j k' e hC _ he => ?_) ?_
  · subst ht
    rw [ap_at]
    omega
  · rw [o2 _ (hC _ rfl)]
    exact nw_ne _ _ (by omega)
  · cases hN'
    have he' : mz_f22 n m (mz_r2 rs (16 * o + s) N) (mz_ap ad (22, o, s, 0) h.2) lv mk mm gi go gj o s 0 = some e := he
    rw [mz_f22, if_pos ⟨ho, hs, rfl, e39, h2⟩, erl] at he'
    cases he'
    rw [ap_at, o2 _ (by omega), nw_at]
    refine congrArg (fun f => some (Sum.inl (14, N, Sum.inr (Sum.inr (Sum.inr (Sum.inr f)))))) (funext fun c => ?_)
    exact (if_neg fun z => e41 c z.1 z.2).symm
  · cases hC
    have he' : mz_f19 n m (mz_r2 rs (16 * o + s) N) (mz_ap ad (22, o, s, 0) h.2) lv mk mm gi go gj o s 0 = some e := he
    rw [mz_f19, if_pos ⟨ho, hs, rfl⟩, if_neg (fun z => z.2 h2), if_pos ⟨e39, h2⟩, ap_at] at he'
    cases he'
    refine ⟨?_, b19⟩
    have e5 : (if rs.2.1 39 (16 * o + s) = 1 ∧ rs.2.1 37 (16 * o + s) ≠ 2 then some (ad (20, o, s, 0)) else none) = none := if_neg fun z => z.2 h2
    rw [c3, e5]
    rfl
  · have ea : ∀ i j, ¬ (i = o ∧ j = s) → ∀ f k', mz_ap ad (22, o, s, 0) h.2 (f, i, j, k') = ad (f, i, j, k') := fun i j hij f k' => by
      rw [ap_ne _ _ (by simp; intro _ a b; exact absurd ⟨a, b⟩ hij)]
    apply mz_hb <;> first | (exact fun _ _ _ _ => Or.inl rfl) | skip
    · intro i j k' hq
      by_cases hij : i = o ∧ j = s
      · obtain ⟨rfl, rfl⟩ := hij
        exact Or.inr (if_neg fun z => hq.2 (by rw [z.2.2]))
      · exact Or.inl (keepSA w (show s < 16 by omega) A i j k' hij (ea i j hij)).1
    · intro i j k' hq
      by_cases hij : i = o ∧ j = s
      · obtain ⟨rfl, rfl⟩ := hij
        exact Or.inr (if_neg fun z => z.2.2.2.2 h2)
      · exact Or.inl (keepSA w (show s < 16 by omega) A i j k' hij (ea i j hij)).2.1
    · intro i j k' hq
      by_cases hij : i = o ∧ j = s
      · obtain ⟨rfl, rfl⟩ := hij
        exact Or.inr (if_neg fun z => z.2.2.2.2 h2)
      · exact Or.inl (keepSA w (show s < 16 by omega) A i j k' hij (ea i j hij)).2.2.1
    · intro i j k' hq
      by_cases hij : i = o ∧ j = s
      · obtain ⟨rfl, rfl⟩ := hij
        exact Or.inr (if_neg fun z => hq.1 (by rw [z.2.2.1]))
      · exact Or.inl (keepSA w (show s < 16 by omega) A i j k' hij (ea i j hij)).2.2.2.1
    · intro i j k' hq
      by_cases hij : i = o ∧ j = s
      · obtain ⟨rfl, rfl⟩ := hij
        exact Or.inr (if_neg fun z => e41 k' (by rw [← erl]; exact z.2.2.2.2.1) z.2.2.2.2.2)
      · exact Or.inl (keepSA w (show s < 16 by omega) A i j k' hij (ea i j hij)).2.2.2.2.1
    · intro i j k' hq
      by_cases hij : i = o ∧ j = s
      · obtain ⟨rfl, rfl⟩ := hij
        exact Or.inr (if_neg fun z => e41 k' (by rw [← erl]; exact z.2.2.2.2.1) z.2.2.2.2.2)
      · exact Or.inl (keepSA w (show s < 16 by omega) A i j k' hij (ea i j hij)).2.2.2.2.2
theorem wo_r2 (w : mz_wo n m rs) {o s N : Nat} (ho : o < m) (hs : s < mz_sl rs o) (h2 : rs.2.1 37 (16 * o + s) = 2) (hN : N ≤ 30) : mz_wo n m (mz_r2 rs (16 * o + s) N) := by
  have h16 := (mz_sl_le w ho).1
  obtain ⟨a1, a2, a3, a4, a5, a6, a7⟩ := id w
  have p39 : ∀ p, p ≠ 16 * o + s → (mz_r2 rs (16 * o + s) N).2.1 39 p = rs.2.1 39 p := fun p hp => pk_un hp
  have p40 : ∀ p, p ≠ 16 * o + s → (mz_r2 rs (16 * o + s) N).2.1 40 p = rs.2.1 40 p := fun p hp => pk_un hp
  have prl : ∀ p, p ≠ 16 * o + s → mz_rl (mz_r2 rs (16 * o + s) N) p = mz_rl rs p := fun p hp => by unfold mz_rl; rw [p40 p hp]
  have e39 : (mz_r2 rs (16 * o + s) N).2.1 39 (16 * o + s) = 1 := pk_us
  have e40 : (mz_r2 rs (16 * o + s) N).2.1 40 (16 * o + s) = nI N := pk_us
  refine ⟨a1, a2, a3, fun o' s' b1 b2 => ?_, fun o' s' i b1 b2 b3 b4 b5 b6 => ?_, a6, fun o' s' i b1 b2 b3 b4 b5 => ?_⟩
  · obtain ⟨c1, c2, c3, c4, c5, c6⟩ := a4 o' s' b1 b2
    by_cases hp : 16 * o' + s' = 16 * o + s
    · refine ⟨c1, c2, c3, Or.inr ?_, ⟨N, hN, ?_⟩, fun e => ?_⟩
      · rw [hp]; exact e39
      · rw [hp]; exact e40
      · have e' : rs.2.1 37 (16 * o' + s') = 0 := e
        rw [hp, h2] at e'
        exact absurd e' (by decide)
    · rw [p39 _ hp, p40 _ hp]
      exact ⟨c1, c2, c3, c4, c5, c6⟩
  · by_cases hp : 16 * o' + s' = 16 * o + s
    · rw [hp] at b6 ⊢
      have hi : i < N := by unfold mz_rl at b6; rw [e40, cl_nI (by omega)] at b6; exact b6
      have e41 : (mz_r2 rs (16 * o + s) N).2.1 41 (30 * (16 * o + s) + i) = 0 := if_pos (by omega)
      rw [e41]
      exact ⟨Or.inl rfl, fun e => absurd e (by decide)⟩
    · rw [p39 _ hp] at b5
      rw [prl _ hp] at b6
      have h16' := (mz_sl_le w b1).1
      have b2' : s' < mz_sl rs o' := b2
      have e41 : (mz_r2 rs (16 * o + s) N).2.1 41 (30 * (16 * o' + s') + i) = rs.2.1 41 (30 * (16 * o' + s') + i) := if_neg (by omega)
      rw [e41]
      exact a5 o' s' i b1 b2 b3 b4 b5 b6
  · by_cases hp : 16 * o' + s' = 16 * o + s
    · exact absurd (by rw [hp]; exact h2) b3
    · rw [p39 _ hp] at b4
      rw [prl _ hp] at b5
      exact a7 o' s' i b1 b2 b3 b4 b5
end
theorem k_row {VB o q l : Nat} {rs : mz_RS} {h : mz_H} (H : mz_In VB o (l + 1) rs h) (x y z : Int32) : mz_Ok VB o q l rs (fun h => fn_X11_row h (some o) x y z) (fun h => fn_X12_row h (some q) x y z) h := by
  refine ok_flt H (fun _ => rfl) (fun _ => rfl) (fun h1 H1 => ?_)
  clear H
  revert H1
  generalize mz_si rs 0 0 = rs
  clear h
  intro H
  generalize h1 = h at H ⊢
  obtain ⟨n, m, ad, lv, mk, mm, gi, go, gj, hR, w⟩ := id H
  obtain ⟨wc, wm, wo, wt, wl, wq, wa, wv⟩ := id w
  obtain rfl : ad (1, 0, 0, 0) = o := wa
  have hn40 := wc.1
  have hm60 := wo.1
  rcases mz_noS wo x y with hx | ⟨a, s, ha, hs, rfl, rfl⟩
  · exact mz_Ok.same H (-1) (by simp only [ci_1 hR, cs_slotOf_no hR wo hx, zo_s, zc_t, zl_0, zr_e, z_0, z_1, if_true]) (by simp only [mz_RH_is, rs_isSlot_no q h.2 wo hx, zo_s, zc_t, zl_0, zr_e, z_0, z_1, if_true])
  have h16 := (mz_sl_le wo ha).1
  by_cases c1 : z ≤ 30
  case neg => exact mz_Ok.same H (-2) (by simp only [ci_1 hR, cs_slotOf hR wo ha hs, if_neg smn, if_neg c1, zo_s, zc_t, zl_0, zr_e, z_0, z_1, if_true]) (by simp only [mz_RH_is, rs_isSlot q h.2 wo ha hs, if_neg one0, if_neg c1, zo_s, zc_t, zl_0, zr_e, z_0, z_1, if_true])
  by_cases c0 : rs.2.1 37 (16 * a + s) = 0
  · exact mz_Ok.same H (-3) (by simp only [ci_1 hR, cs_slotOf hR wo ha hs, if_neg smn, if_pos c1, cg_19_2 hR ha hs, if_pos c0, zo_s, zc_t, zl_0, zr_e, z_0, z_1, if_true]) (by simp only [mz_RH_is, rs_isSlot q h.2 wo ha hs, if_neg one0, if_pos c1, l16, rr_37, ra_37, ix_nI (show 16 * a + s < 960 by omega) (show 960 < 2 ^ 31 by omega), cl_nI (show 16 * a + s < 2 ^ 31 by omega), if_pos c0, zo_s, zc_t, zl_0, zr_e, z_0, z_1, if_true])
  by_cases c2 : 0 ≤ z
  case neg =>
    refine ok_fail H 5 ?_ (fun sz => ?_)
    · simp only [ci_1 hR, cs_slotOf hR wo ha hs, if_neg smn, if_pos c1, cg_19_2 hR ha hs, if_neg c0, if_neg c2, zo_s, zc_t, zl_0]
    · simp only [mz_RH_is, rs_isSlot q sz wo ha hs, if_neg one0, if_pos c1, l16, rr_37, ra_37, ix_nI (show 16 * a + s < 960 by omega) (show 960 < 2 ^ 31 by omega), cl_nI (show 16 * a + s < 2 ^ 31 by omega), if_neg c0, if_neg c2, zo_s, zc_t, zl_0, if_true]
  obtain ⟨N, hN, rfl⟩ : ∃ i : Nat, i ≤ 30 ∧ z = nI i := nI_of2 (M := 30) rfl (Int32.not_lt.mpr c2) c1
  have z11 : (1 : Int32) &&& 1 = 1 := by decide
  by_cases h2 : rs.2.1 37 (16 * a + s) = 2
  · obtain ⟨h1, k1, R1, s1⟩ := cw_row2 hR wo ha hs h2 hN (by omega)
    have n1 : ¬ (mz_sa (mz_sa rs 39 (16 * a + s) 1) 40 (16 * a + s) (nI N)).2.1 37 (16 * a + s) = 1 := by
      rw [show (mz_sa (mz_sa rs 39 (16 * a + s) 1) 40 (16 * a + s) (nI N)).2.1 37 (16 * a + s) = 2 from h2]
      decide
    have L := rs_rowF q h1.2 (mz_sa (mz_sa rs 39 (16 * a + s) 1) 40 (16 * a + s) (nI N)) (Q := 16 * a + s) (by omega) hN N 0 1001 (rs.2.1 41) (by omega) (by omega)
    have e0 : mz_qa (mz_sa (mz_sa rs 39 (16 * a + s) 1) 40 (16 * a + s) (nI N)) 41 (rs.2.1 41) = mz_sa (mz_sa rs 39 (16 * a + s) 1) 40 (16 * a + s) (nI N) := (qa_id _ 41).symm
    rw [e0] at L
    have L' : fn_X12_row_b97 1001 (mz_RH q h1.2 (mz_sa (mz_sa rs 39 (16 * a + s) 1) 40 (16 * a + s) (nI N))) (some q) (nI N) (nI (16 * a + s)) 0 = some (1, mz_RH q h1.2 (mz_r2 rs (16 * a + s) N), 0, 0) := L
    refine ⟨1, h1, 1, N, mz_r2 rs (16 * a + s) N, ?_, ?_, ⟨n, m, _, lv, mk, mm, gi, go, gj, R1, wc, wm, wo_r2 wo ha hs h2 hN, wt, wl, wq, rfl, by omega⟩, by omega, Nat.le_refl _, by omega, by omega⟩
    · simp only [ci_1 hR, cs_slotOf hR wo ha hs, if_neg smn, if_pos c1, cg_19_2 hR ha hs, if_neg c0, if_pos c2, ci_19 hR ha hs, k1, zl_s, za_s, zo_s, zc_t, zl_0, zr_e]
      simp only [Nat.zero_add, Nat.add_zero]
    · simp only [mz_RH_is, rs_isSlot q h1.2 wo ha hs, if_neg one0, if_pos c1, l16, rr_37, ra_37, ix_nI (show 16 * a + s < 960 by omega) (show 960 < 2 ^ 31 by omega), cl_nI (show 16 * a + s < 2 ^ 31 by omega), if_neg c0, if_pos c2, rr_39, rw_39, z11, rr_40, rw_40, if_neg n1, L', zo_s, zc_t, zl_0, if_true]
  · obtain ⟨h1, k1, R1, s1⟩ := cw_row1 hR wo ha hs h2 hN (by omega)
    have n1 : (mz_sa (mz_sa rs 39 (16 * a + s) 1) 40 (16 * a + s) (nI N)).2.1 37 (16 * a + s) = 1 := by
      show rs.2.1 37 (16 * a + s) = 1
      obtain ⟨dd, hd, ed⟩ := (wo.2.2.2.1 a s ha hs).2.2.1
      rw [ed] at h2 c0 ⊢
      rcases (show dd = 0 ∨ dd = 1 ∨ dd = 2 by omega) with rfl | rfl | rfl
      · exact absurd rfl c0
      · rfl
      · exact absurd rfl h2
    have L : fn_X12_clear (mz_RH q h1.2 (mz_sa (mz_sa rs 39 (16 * a + s) 1) 40 (16 * a + s) (nI N))) (some q) (nI (16 * a + s)) 0 (nI N) = some ((), mz_RH q h1.2 (mz_r1 rs (16 * a + s) N), 0, 0) := rs_clear' q h1.2 (mz_sa (mz_sa rs 39 (16 * a + s) 1) 40 (16 * a + s) (nI N)) (Q := 16 * a + s) (B := 0) (N := N) (by omega) (by omega)
    refine ⟨1, h1, 2, N + 1, mz_r1 rs (16 * a + s) N, ?_, ?_, ⟨n, m, _, lv, mk, mm, gi, go, gj, R1, wc, wm, wo_r1 wo ha hs c0 h2 hN, wt, wl, wq, rfl, by omega⟩, by omega, Nat.le_refl _, by omega, by omega⟩
    · simp only [ci_1 hR, cs_slotOf hR wo ha hs, if_neg smn, if_pos c1, cg_19_2 hR ha hs, if_neg c0, if_pos c2, ci_19 hR ha hs, k1, zl_s, za_s, zo_s, zc_t, zl_0, zr_e]
      simp only [Nat.zero_add, Nat.add_zero]
    · simp only [mz_RH_is, rs_isSlot q h1.2 wo ha hs, if_neg one0, if_pos c1, l16, rr_37, ra_37, ix_nI (show 16 * a + s < 960 by omega) (show 960 < 2 ^ 31 by omega), cl_nI (show 16 * a + s < 2 ^ 31 by omega), if_neg c0, if_pos c2, rr_39, rw_39, z11, rr_40, rw_40, if_pos n1, L, zo_s, zc_t, zl_0, zr_e, z_0, z_1, if_true]

/-! where a cell of a slot is, on both sides -/
/-- the place (i, j) of slot s of object o: the fault F on the way to it; where F is 0: cell x of the array of tag t, which is the reference's cell x2 -/
def mz_PC (rs : mz_RS) (o s : Nat) (i j F : Int32) (t : mz_T) (x x2 : Nat) : Prop :=
  (rs.2.1 39 (16 * o + s) = 0 ∧ F = 1) ∨
  (rs.2.1 39 (16 * o + s) = 1 ∧ (i < 0 ∨ nI (mz_rl rs (16 * o + s)) ≤ i) ∧ F = 3) ∨
  (rs.2.1 39 (16 * o + s) = 1 ∧ rs.2.1 37 (16 * o + s) ≠ 2 ∧ i = nI x ∧ x < mz_rl rs (16 * o + s) ∧ F = 0 ∧ t = (21, o, s, 0) ∧ x2 = 900 * (16 * o + s) + x) ∨
  (rs.2.1 39 (16 * o + s) = 1 ∧ rs.2.1 37 (16 * o + s) = 2 ∧ ∃ i0, i = nI i0 ∧ i0 < mz_rl rs (16 * o + s) ∧ ((rs.2.1 41 (30 * (16 * o + s) + i0) = 0 ∧ F = 1) ∨ (rs.2.1 41 (30 * (16 * o + s) + i0) = 1 ∧ (j < 0 ∨ nI (mz_il rs (30 * (16 * o + s) + i0)) ≤ j) ∧ F = 3) ∨
    (rs.2.1 41 (30 * (16 * o + s) + i0) = 1 ∧ j = nI x ∧ x < mz_il rs (30 * (16 * o + s) + i0) ∧ F = 0 ∧ t = (24, o, s, i0) ∧ x2 = 900 * (16 * o + s) + (30 * i0 + x))))
section
variable {VB : Nat} {n m : Nat} {rs : mz_RS} {ad : mz_T → Nat} {lv : Nat → Int32} {mk : Nat → Nat} {mm : Nat → Nat → Nat × Nat} {gi : Nat → Nat → Nat → Int32} {go : Nat → Nat → Option Nat} {gj : Nat → Nat → Int64} {h : mz_H}
theorem il_le (w : mz_wo n m rs) {o s i : Nat} (ho : o < m) (hs : s < mz_sl rs o) (h1 : rs.2.1 39 (16 * o + s) = 1) (h2 : rs.2.1 37 (16 * o + s) = 2) (hi : i < mz_rl rs (16 * o + s)) (h4 : rs.2.1 41 (30 * (16 * o + s) + i) = 1) : mz_il rs (30 * (16 * o + s) + i) ≤ 30 ∧ rs.2.1 42 (30 * (16 * o + s) + i) = nI (mz_il rs (30 * (16 * o + s) + i)) := by
  have h30 := (rl_le w ho hs).1
  obtain ⟨r, hr, e⟩ := (w.2.2.2.2.1 o s i ho hs (by omega) h2 h1 hi).2 h4
  unfold mz_il
  rw [e, cl_nI (by omega)]
  exact ⟨hr, rfl⟩
theorem mz_PC.ex (w : mz_wo n m rs) {o s : Nat} (ho : o < m) (hs : s < mz_sl rs o) (i j : Int32) : ∃ F t x x2, mz_PC rs o s i j F t x x2 := by
  have h30 := (rl_le w ho hs).1
  rcases (w.2.2.2.1 o s ho hs).2.2.2.1 with h1 | h1
  · exact ⟨1, (0, 0, 0, 0), 0, 0, Or.inl ⟨h1, rfl⟩⟩
  · rcases mz_no i (show mz_rl rs (16 * o + s) < 2 ^ 31 by omega) with hi | ⟨i0, hi0, rfl⟩
    · exact ⟨3, (0, 0, 0, 0), 0, 0, Or.inr (Or.inl ⟨h1, hi, rfl⟩)⟩
    · by_cases h2 : rs.2.1 37 (16 * o + s) = 2
      · rcases (w.2.2.2.2.1 o s i0 ho hs (by omega) h2 h1 hi0).1 with h4 | h4
        · exact ⟨1, (0, 0, 0, 0), 0, 0, Or.inr (Or.inr (Or.inr ⟨h1, h2, i0, rfl, hi0, Or.inl ⟨h4, rfl⟩⟩))⟩
        · have hil := (il_le w ho hs h1 h2 hi0 h4).1
          rcases mz_no j (show mz_il rs (30 * (16 * o + s) + i0) < 2 ^ 31 by omega) with hj | ⟨j0, hj0, rfl⟩
          · exact ⟨3, (0, 0, 0, 0), 0, 0, Or.inr (Or.inr (Or.inr ⟨h1, h2, i0, rfl, hi0, Or.inr (Or.inl ⟨h4, hj, rfl⟩)⟩))⟩
          · exact ⟨0, _, j0, _, Or.inr (Or.inr (Or.inr ⟨h1, h2, i0, rfl, hi0, Or.inr (Or.inr ⟨h4, rfl, hj0, rfl, rfl, rfl⟩)⟩))⟩
      · exact ⟨0, _, i0, _, Or.inr (Or.inr (Or.inl ⟨h1, h2, rfl, hi0, rfl, rfl, rfl⟩))⟩
theorem d0ne : ¬ (0 : Int32) = 1 := by decide
theorem cs_nothing (hR : mz_Rp VB n m rs ad lv mk mm gi go gj h) (w : mz_wo n m rs) {o s : Nat} (ho : o < m) (hs : s < mz_sl rs o) : fn_X6_hasNothing h (some (ad (19, o, s, 0))) = some (if rs.2.1 39 (16 * o + s) = 0 then 1 else 0, h, 0, 0) := by
  rcases (w.2.2.2.1 o s ho hs).2.2.2.1 with h1 | h1
  · simp only [fn_X6_hasNothing, cg_19_4 hR ho hs, cg_19_5 hR ho hs, h1, d0ne, false_and, if_false, zo_s, zc_t, zl_0, zr_e, z_0, z_1, if_true]
  · by_cases h2 : rs.2.1 37 (16 * o + s) = 2
    · simp only [fn_X6_hasNothing, cg_19_4 hR ho hs, cg_19_5 hR ho hs, h1, h2, ne_eq, not_true_eq_false, and_false, and_self, if_false, if_neg smn, one0, zo_s, zc_t, zl_0, zr_e, z_0, z_1, if_true]
    · simp only [fn_X6_hasNothing, cg_19_4 hR ho hs, h1, h2, ne_eq, not_false_eq_true, and_self, if_neg smn, one0, if_false, zo_s, zc_t, zl_0, zr_e, z_0, z_1, if_true]
theorem cs_length (hR : mz_Rp VB n m rs ad lv mk mm gi go gj h) (w : mz_wo n m rs) {o s : Nat} (ho : o < m) (hs : s < mz_sl rs o) (h1 : rs.2.1 39 (16 * o + s) = 1) : fn_X6_length h (some (ad (19, o, s, 0))) = some (nI (mz_rl rs (16 * o + s)), h, 0, 0) := by
  by_cases h2 : rs.2.1 37 (16 * o + s) = 2
  · simp only [fn_X6_length, cg_19_5 hR ho hs, h1, h2, and_self, if_neg smn, cl_22a hR ho hs h1 h2, zo_s, zc_t, zl_0, zr_e, z_0, z_1, if_true]
    rfl
  · simp only [fn_X6_length, cg_19_5 hR ho hs, cg_19_4 hR ho hs, h1, h2, and_false, if_false, ne_eq, not_false_eq_true, and_self, if_neg smn, cg_20_0 hR ho hs h1 h2, cl_21a hR ho hs h1 h2, zo_s, zc_t, zl_0, zr_e, z_0, z_1, if_true]
    rfl
theorem cs_rowAt1 (hR : mz_Rp VB n m rs ad lv mk mm gi go gj h) {o s : Nat} (ho : o < m) (hs : s < mz_sl rs o) (h1 : rs.2.1 39 (16 * o + s) = 1) (h2 : rs.2.1 37 (16 * o + s) ≠ 2) (i : Int32) : fn_X6_rowAt h (some (ad (19, o, s, 0))) i = some (some (ad (20, o, s, 0)), h, 0, 0) := by
  simp only [fn_X6_rowAt, cg_19_5 hR ho hs, cg_19_4 hR ho hs, h1, h2, and_false, if_false, ne_eq, not_false_eq_true, and_self, zo_s, zc_t, zl_0, zr_e, z_0, z_1, if_true]
theorem cs_rowAt2 (hR : mz_Rp VB n m rs ad lv mk mm gi go gj h) (w : mz_wo n m rs) {o s i : Nat} (ho : o < m) (hs : s < mz_sl rs o) (h1 : rs.2.1 39 (16 * o + s) = 1) (h2 : rs.2.1 37 (16 * o + s) = 2) (hi : i < mz_rl rs (16 * o + s)) : fn_X6_rowAt h (some (ad (19, o, s, 0))) (nI i) = some (if rs.2.1 41 (30 * (16 * o + s) + i) = 1 then some (ad (23, o, s, i)) else none, h, 0, 0) := by
  have h30 := (rl_le w ho hs).1
  have e : ¬ Int32.ofNat (mz_rl rs (16 * o + s)) ≤ nI i := nI_ge hi (by omega)
  simp only [fn_X6_rowAt, cg_19_5 hR ho hs, h1, h2, and_self, if_neg smn, if_neg (nI_pos (show i < 2 ^ 31 by omega)), cl_22a hR ho hs h1 h2, if_neg e, ca_22 hR ho hs h1 h2, ix_nI hi (show mz_rl rs (16 * o + s) < 2 ^ 31 by omega), cl_nI (show i < 2 ^ 31 by omega), hi, true_and, zo_s, zc_t, zl_0, zr_e, z_0, z_1, if_true]
theorem cs_has (hR : mz_Rp VB n m rs ad lv mk mm gi go gj h) {t : mz_T} {a N : Nat} {f : Nat → Int64} (hr : h.1 a = some (.inr (4, [.ref (ad t)]))) (hc : h.1 (ad t) = some (.inl (1, N, .inr (.inl f)))) (x : Int32) : fn_X5_has h (some a) x = some (if x < 0 then 0 else if nI N ≤ x then 0 else 1, h, 0, 0) := by
  have g0 : mz_fR h (some a) 4 0 = some (some (ad t)) := by simp only [mz_fR, mz_fv, hr, if_true]; rfl
  have g1 : mz_len h (some (ad t)) 1 = some (Int32.ofNat N) := by simp only [mz_len, mz_ar, hc, if_true]
  by_cases c1 : x < 0
  · simp only [fn_X5_has, if_pos c1, zo_s, zc_t, zl_0, zr_e, z_0, z_1, if_true]
  · by_cases c2 : nI N ≤ x
    · have c2' : Int32.ofNat N ≤ x := c2
      simp only [fn_X5_has, if_neg c1, g0, g1, if_pos c2', if_pos c2, zo_s, zc_t, zl_0, zr_e, z_0, z_1, if_true]
    · have c2' : ¬ Int32.ofNat N ≤ x := c2
      simp only [fn_X5_has, if_neg c1, g0, g1, if_neg c2', if_neg c2, zo_s, zc_t, zl_0, zr_e, z_0, z_1, if_true]
theorem i31 : ¬ (3 : Int32) = 0 := by decide
theorem cs_faultAt (hR : mz_Rp VB n m rs ad lv mk mm gi go gj h) (w : mz_wo n m rs) {o s : Nat} (ho : o < m) (hs : s < mz_sl rs o) {i j F : Int32} {t : mz_T} {x x2 : Nat} (P : mz_PC rs o s i j F t x x2) : fn_X6_faultAt h (some (ad (19, o, s, 0))) i j = some (F, h, 0, 0) := by
  have h30 := (rl_le w ho hs).1
  rcases P with ⟨h1, rfl⟩ | ⟨h1, hi, rfl⟩ | ⟨h1, h2, rfl, hx, rfl, rfl, rfl⟩ | ⟨h1, h2, i0, rfl, hi0, P⟩
  · simp only [fn_X6_faultAt, ci_19 hR ho hs, cs_nothing hR w ho hs, h1, if_neg one0, zo_s, zc_t, zl_0, zr_e, z_0, z_1, if_true]
  · by_cases c1 : i < 0
    · simp only [fn_X6_faultAt, ci_19 hR ho hs, cs_nothing hR w ho hs, h1, if_neg one0, if_pos c1, zo_s, zc_t, zl_0, zr_e, z_0, z_1, if_true]
    · simp only [fn_X6_faultAt, ci_19 hR ho hs, cs_nothing hR w ho hs, h1, if_neg one0, if_neg c1, cs_length hR w ho hs h1, if_neg (Int32.not_lt.mpr (hi.resolve_left c1)), zo_s, zc_t, zl_0, zr_e, z_0, z_1, if_true]
  · have hh := cs_has hR (cc_20 hR ho hs h1 h2) (cc_21 hR ho hs h1 h2) (nI x)
    simp only [fn_X6_faultAt, ci_19 hR ho hs, cs_nothing hR w ho hs, h1, if_neg one0, if_neg (nI_pos (show x < 2 ^ 31 by omega)), cs_length hR w ho hs h1, if_pos (nI_lt hx (show mz_rl rs (16 * o + s) < 2 ^ 31 by omega)), cs_rowAt1 hR ho hs h1 h2, if_neg smn, cg_19_2 hR ho hs, if_neg h2, fn_X6_faultAt_b49, ci_20 hR ho hs h1 h2, hh, if_neg (nI_ge hx (show mz_rl rs (16 * o + s) < 2 ^ 31 by omega)), zo_s, zc_t, zl_0, zr_e, z_0, z_1, if_true]
  · have e1 : fn_X6_faultAt h (some (ad (19, o, s, 0))) (nI i0) j = (if (if rs.2.1 41 (30 * (16 * o + s) + i0) = 1 then some (ad (23, o, s, i0)) else none) = none then mz_ret 1 h else fn_X6_faultAt_b49 h (if rs.2.1 41 (30 * (16 * o + s) + i0) = 1 then some (ad (23, o, s, i0)) else none) j) := by
      simp only [fn_X6_faultAt, ci_19 hR ho hs, cs_nothing hR w ho hs, h1, if_neg one0, if_neg (nI_pos (show i0 < 2 ^ 31 by omega)), cs_length hR w ho hs h1, if_pos (nI_lt hi0 (show mz_rl rs (16 * o + s) < 2 ^ 31 by omega)), cs_rowAt2 hR w ho hs h1 h2 hi0, cg_19_2 hR ho hs, h2, zo_s, zc_t, zl_0, if_true]
    rw [e1]
    rcases P with ⟨h4, rfl⟩ | ⟨h4, hj, rfl⟩ | ⟨h4, rfl, hx, rfl, rfl, rfl⟩
    · rw [h4]; rfl
    · have hil := (il_le w ho hs h1 h2 hi0 h4).1
      have hh := cs_has hR (cc_23 hR ho hs h1 h2 hi0 h4) (cc_24 hR ho hs h1 h2 hi0 h4) j
      rw [if_pos h4, if_neg smn]
      by_cases c1 : j < 0
      · simp only [fn_X6_faultAt_b49, ci_23 hR ho hs h1 h2 hi0 h4, hh, if_pos c1, zo_s, zc_t, zl_0, zr_e, z_0, z_1, if_true]
      · simp only [fn_X6_faultAt_b49, ci_23 hR ho hs h1 h2 hi0 h4, hh, if_neg c1, if_pos (hj.resolve_left c1), zo_s, zc_t, zl_0, zr_e, z_0, z_1, if_true]
    · have hil := (il_le w ho hs h1 h2 hi0 h4).1
      have hh := cs_has hR (cc_23 hR ho hs h1 h2 hi0 h4) (cc_24 hR ho hs h1 h2 hi0 h4) (nI x)
      rw [if_pos h4, if_neg smn]
      simp only [fn_X6_faultAt_b49, ci_23 hR ho hs h1 h2 hi0 h4, hh, if_neg (nI_pos (show x < 2 ^ 31 by omega)), if_neg (nI_ge hx (show mz_il rs (30 * (16 * o + s) + i0) < 2 ^ 31 by omega)), if_neg one0, zo_s, zc_t, zl_0, zr_e, z_0, z_1, if_true]
theorem cs_cellAt (hR : mz_Rp VB n m rs ad lv mk mm gi go gj h) (w : mz_wo n m rs) {o s : Nat} (ho : o < m) (hs : s < mz_sl rs o) {i j : Int32} {t : mz_T} {x x2 : Nat} (P : mz_PC rs o s i j 0 t x x2) : fn_X6_cellAt h (some (ad (19, o, s, 0))) i j = some (rs.2.2 43 x2, h, 0, 0) := by
  have h30 := (rl_le w ho hs).1
  rcases P with ⟨h1, q⟩ | ⟨h1, hi, q⟩ | ⟨h1, h2, rfl, hx, -, rfl, rfl⟩ | ⟨h1, h2, i0, rfl, hi0, P⟩
  · cases q
  · exact absurd q.symm i31
  · have hh := cs_has hR (cc_20 hR ho hs h1 h2) (cc_21 hR ho hs h1 h2) (nI x)
    simp only [fn_X6_cellAt, ci_19 hR ho hs, cs_rowAt1 hR ho hs h1 h2, cg_19_2 hR ho hs, if_neg h2, fn_X6_cellAt_b19, if_neg smn, ci_20 hR ho hs h1 h2, hh, if_neg (nI_pos (show x < 2 ^ 31 by omega)), if_neg (nI_ge hx (show mz_rl rs (16 * o + s) < 2 ^ 31 by omega)), if_neg one0, cg_20_0 hR ho hs h1 h2, ca_21 hR ho hs h1 h2, ix_nI hx (show mz_rl rs (16 * o + s) < 2 ^ 31 by omega), cl_nI (show x < 2 ^ 31 by omega), if_pos hx, zo_s, zc_t, zl_0, zr_e, z_0, z_1, if_true]
  · rcases P with ⟨h4, q⟩ | ⟨h4, hj, q⟩ | ⟨h4, rfl, hx, -, rfl, rfl⟩
    · cases q
    · exact absurd q.symm i31
    · have hil := (il_le w ho hs h1 h2 hi0 h4).1
      have hh := cs_has hR (cc_23 hR ho hs h1 h2 hi0 h4) (cc_24 hR ho hs h1 h2 hi0 h4) (nI x)
      simp only [fn_X6_cellAt, ci_19 hR ho hs, cs_rowAt2 hR w ho hs h1 h2 hi0, if_pos h4, cg_19_2 hR ho hs, if_pos h2, fn_X6_cellAt_b19, if_neg smn, ci_23 hR ho hs h1 h2 hi0 h4, hh, if_neg (nI_pos (show x < 2 ^ 31 by omega)), if_neg (nI_ge hx (show mz_il rs (30 * (16 * o + s) + i0) < 2 ^ 31 by omega)), if_neg one0, cg_23_0 hR ho hs h1 h2 hi0 h4, ca_24 hR ho hs h1 h2 hi0 h4, ix_nI hx (show mz_il rs (30 * (16 * o + s) + i0) < 2 ^ 31 by omega), cl_nI (show x < 2 ^ 31 by omega), if_pos hx, zo_s, zc_t, zl_0, zr_e, z_0, z_1, if_true]
theorem dep2 (w : mz_wo n m rs) {o s : Nat} (ho : o < m) (hs : s < mz_sl rs o) : (2 : Int32) ≤ rs.2.1 37 (16 * o + s) ↔ rs.2.1 37 (16 * o + s) = 2 := by
  obtain ⟨d, hd, e⟩ := (w.2.2.2.1 o s ho hs).2.2.1
  rw [e]
  rcases (show d = 0 ∨ d = 1 ∨ d = 2 by omega) with rfl | rfl | rfl <;> decide
theorem rs_placeOf (q sz : Nat) (w : mz_wo n m rs) {o s : Nat} (ho : o < m) (hs : s < mz_sl rs o) {i j F : Int32} {t : mz_T} {x x2 : Nat} (P : mz_PC rs o s i j F t x x2) : fn_X12_placeOf (mz_RH q sz rs) (some q) (nI (16 * o + s)) i j = some (if F = 0 then nI x2 else -F, mz_RH q sz rs, 0, 0) := by
  have h30 := (rl_le w ho hs).1
  have hm := w.1
  have h16 := (mz_sl_le w ho).1
  have e40 := (rl_le w ho hs).2
  rcases P with ⟨h1, rfl⟩ | ⟨h1, hi, rfl⟩ | ⟨h1, h2, rfl, hx, rfl, rfl, rfl⟩ | ⟨h1, h2, i0, rfl, hi0, P⟩
  · simp only [fn_X12_placeOf, rr_39, ra_39, ix_nI (show 16 * o + s < 960 by omega) (show 960 < 2 ^ 31 by omega), cl_nI (show 16 * o + s < 2 ^ 31 by omega), h1, if_neg one0, zo_s, zc_t, zl_0, zr_e, z_0, z_1, if_true]
  · by_cases c1 : i < 0
    · simp only [fn_X12_placeOf, rr_39, ra_39, ix_nI (show 16 * o + s < 960 by omega) (show 960 < 2 ^ 31 by omega), cl_nI (show 16 * o + s < 2 ^ 31 by omega), h1, if_neg one0, if_pos c1, if_neg i31, zo_s, zc_t, zl_0, zr_e, z_0, z_1, if_true]
    · simp only [fn_X12_placeOf, rr_39, ra_39, rr_40, ra_40, ix_nI (show 16 * o + s < 960 by omega) (show 960 < 2 ^ 31 by omega), cl_nI (show 16 * o + s < 2 ^ 31 by omega), h1, if_neg one0, if_neg c1, e40, if_neg (Int32.not_lt.mpr (hi.resolve_left c1)), if_neg i31, zo_s, zc_t, zl_0, zr_e, z_0, z_1, if_true]
  · simp only [fn_X12_placeOf, rr_39, ra_39, rr_40, ra_40, rr_37, ra_37, ix_nI (show 16 * o + s < 960 by omega) (show 960 < 2 ^ 31 by omega), cl_nI (show 16 * o + s < 2 ^ 31 by omega), h1, if_neg one0, if_neg (nI_pos (show x < 2 ^ 31 by omega)), e40, if_pos (nI_lt hx (show mz_rl rs (16 * o + s) < 2 ^ 31 by omega)), if_neg (fun z => h2 ((dep2 w ho hs).mp z)), l900, zo_s, zc_t, zl_0, zr_e, z_0, z_1, if_true]
  · rcases P with ⟨h4, rfl⟩ | ⟨h4, hj, rfl⟩ | ⟨h4, rfl, hx, rfl, rfl, rfl⟩
    · simp only [fn_X12_placeOf, rr_39, ra_39, rr_40, ra_40, rr_37, ra_37, rr_41, ra_41, ix_nI (show 16 * o + s < 960 by omega) (show 960 < 2 ^ 31 by omega), cl_nI (show 16 * o + s < 2 ^ 31 by omega), h1, if_neg one0, if_neg (nI_pos (show i0 < 2 ^ 31 by omega)), e40, if_pos (nI_lt hi0 (show mz_rl rs (16 * o + s) < 2 ^ 31 by omega)), if_pos ((dep2 w ho hs).mpr h2), l30, ix_nI (show 30 * (16 * o + s) + i0 < 28800 by omega) (show 28800 < 2 ^ 31 by omega), cl_nI (show 30 * (16 * o + s) + i0 < 2 ^ 31 by omega), h4, zo_s, zc_t, zl_0, zr_e, z_0, z_1, if_true]
    · have e42 := (il_le w ho hs h1 h2 hi0 h4).2
      by_cases c1 : j < 0
      · simp only [fn_X12_placeOf, fn_X12_placeOf_b81, rr_39, ra_39, rr_40, ra_40, rr_37, ra_37, rr_41, ra_41, ix_nI (show 16 * o + s < 960 by omega) (show 960 < 2 ^ 31 by omega), cl_nI (show 16 * o + s < 2 ^ 31 by omega), h1, if_neg one0, if_neg (nI_pos (show i0 < 2 ^ 31 by omega)), e40, if_pos (nI_lt hi0 (show mz_rl rs (16 * o + s) < 2 ^ 31 by omega)), if_pos ((dep2 w ho hs).mpr h2), l30, ix_nI (show 30 * (16 * o + s) + i0 < 28800 by omega) (show 28800 < 2 ^ 31 by omega), cl_nI (show 30 * (16 * o + s) + i0 < 2 ^ 31 by omega), h4, if_pos c1, if_neg i31, zo_s, zc_t, zl_0, zr_e, z_0, z_1, if_true]
      · simp only [fn_X12_placeOf, fn_X12_placeOf_b81, rr_39, ra_39, rr_40, ra_40, rr_37, ra_37, rr_41, ra_41, rr_42, ra_42, ix_nI (show 16 * o + s < 960 by omega) (show 960 < 2 ^ 31 by omega), cl_nI (show 16 * o + s < 2 ^ 31 by omega), h1, if_neg one0, if_neg (nI_pos (show i0 < 2 ^ 31 by omega)), e40, if_pos (nI_lt hi0 (show mz_rl rs (16 * o + s) < 2 ^ 31 by omega)), if_pos ((dep2 w ho hs).mpr h2), l30, ix_nI (show 30 * (16 * o + s) + i0 < 28800 by omega) (show 28800 < 2 ^ 31 by omega), cl_nI (show 30 * (16 * o + s) + i0 < 2 ^ 31 by omega), h4, if_neg c1, e42, if_neg (Int32.not_lt.mpr (hj.resolve_left c1)), if_neg i31, zo_s, zc_t, zl_0, zr_e, z_0, z_1, if_true]
    · have e42 := (il_le w ho hs h1 h2 hi0 h4).2
      have hil := (il_le w ho hs h1 h2 hi0 h4).1
      simp only [fn_X12_placeOf, rr_39, ra_39, rr_40, ra_40, rr_37, ra_37, rr_41, ra_41, rr_42, ra_42, ix_nI (show 16 * o + s < 960 by omega) (show 960 < 2 ^ 31 by omega), cl_nI (show 16 * o + s < 2 ^ 31 by omega), h1, if_neg one0, if_neg (nI_pos (show i0 < 2 ^ 31 by omega)), e40, if_pos (nI_lt hi0 (show mz_rl rs (16 * o + s) < 2 ^ 31 by omega)), if_pos ((dep2 w ho hs).mpr h2), l30, ix_nI (show 30 * (16 * o + s) + i0 < 28800 by omega) (show 28800 < 2 ^ 31 by omega), cl_nI (show 30 * (16 * o + s) + i0 < 2 ^ 31 by omega), h4, if_neg (nI_pos (show x < 2 ^ 31 by omega)), e42, if_pos (nI_lt hx (show mz_il rs (30 * (16 * o + s) + i0) < 2 ^ 31 by omega)), l900', l30', nI_add, Nat.add_assoc, zo_s, zc_t, zl_0, zr_e, z_0, z_1, if_true]
end

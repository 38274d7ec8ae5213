/-! tally, offer, variable, entry, board -/
theorem mz_Ok.cong {α : Type} {VB o q l : Nat} {rs : mz_RS} {fx fm gx gm : mz_H → mz_Res α} {h : mz_H} (hx : fx h = gx h) (hm : ∀ sz, fm (mz_RH q sz rs) = gm (mz_RH q sz rs)) (K : mz_Ok VB o q l rs gx gm h) : mz_Ok VB o q l rs fx fm h := by
  obtain ⟨r, h', k, nn, rs', g1, g2, g3⟩ := K
  exact ⟨r, h', k, nn, rs', hx.trans g1, (hm _).trans g2, g3⟩
theorem i01 : ¬ nI 0 = 1 := by decide
theorem i02 : ¬ nI 0 = 2 := by decide
theorem i11 : nI 1 = 1 := by decide
theorem i12 : ¬ nI 1 = 2 := by decide
theorem i21 : ¬ nI 2 = 1 := by decide
theorem i22 : nI 2 = 2 := by decide
theorem i03 : Int32.ofNat 3 = 3 := rfl
theorem smn {a : Nat} : ¬ (some a : Option Nat) = none := fun q => by cases q
theorem ok_tupd {VB q l : Nat} {rs : mz_RS} {h : mz_H} {n m : Nat} {ad : mz_T → Nat} {lv : Nat → Int32} {mk : Nat → Nat} {mm : Nat → Nat → Nat × Nat} {gi : Nat → Nat → Nat → Int32} {go : Nat → Nat → Option Nat} {gj : Nat → Nat → Int64} (hR : mz_Rp VB n m rs ad lv mk mm gi go gj h) (w : mz_wc n rs lv ∧ mz_wm n rs mk mm ∧ mz_wo n m rs ∧ mz_wt0 rs gi go ∧ mz_wl n rs ∧ mz_wq rs gj ∧ ad (1, 0, 0, 0) = ad (1, 0, 0, 0) ∧ h.2 + 40 * (l + 1) + 1100 * (60 - m) ≤ VB) {j i : Nat} (hj : j < n) (hi : i < 3) (z : Int32) :
    mz_Ok VB (ad (1, 0, 0, 0)) q l rs (fun h => fn_X11_tally_b72 h (nI i) z (some (ad (6, j, 0, 0)))) (fun h => fn_X12_tally_b61 h (some q) (nI j) (nI i) z) h := by
  have hn40 := w.1.1
  obtain ⟨h1, e1, R1, s1⟩ := cw_tally hR hj hi (rs.2.1 15 (3 * j + i) + z)
  refine ⟨rs.2.1 15 (3 * j + i) + z, h1, 0, 0, mz_sa rs 15 (3 * j + i) (rs.2.1 15 (3 * j + i) + z), ?_, ?_, mz_In.tally R1 hj hi s1 w, Nat.le_of_eq s1.symm, Nat.le_refl _, by omega, by omega⟩
  · have a1 : mz_aI h1 (some (ad (10, j, 0, 0))) 0 (nI i) = some (rs.2.1 15 (3 * j + i) + z) := by
      rw [ca_10 R1 hj, ix_nI hi (by omega), cl_nI (by omega)]
      simp [mz_sa, upd, hi]
    have a0 : mz_aI h (some (ad (10, j, 0, 0))) 0 (nI i) = some (rs.2.1 15 (3 * j + i)) := by
      rw [ca_10 hR hj, ix_nI hi (by omega), cl_nI (by omega)]
      simp [hi]
    have g1 : mz_fR h1 (some (ad (6, j, 0, 0))) 8 9 = some (some (ad (10, j, 0, 0))) := cg_6_9 R1 hj
    simp only [fn_X11_tally_b72, cg_6_9 hR hj, a0, e1, g1, a1, zo_s, zc_t, zl_0, zr_e, z_0, z_1, if_true]
  · simp only [fn_X12_tally_b61, l3, rr_15, ra_15, rw_15, ix_nI (show 3 * j + i < 120 by omega) (show 120 < 2 ^ 31 by omega), cl_nI (show 3 * j + i < 2 ^ 31 by omega), zo_s, zc_t, zl_0, zr_e, z_0, z_1, if_true]
    simp [mz_sa, upd]
theorem k_tally {VB o q l : Nat} {rs : mz_RS} {h : mz_H} (H : mz_In VB o (l + 1) rs h) (x y z : Int32) : mz_Ok VB o q l rs (fun h => fn_X11_tally h (some o) x y z) (fun h => fn_X12_tally h (some q) x y z) h := by
  refine ok_flt H (fun _ => rfl) (fun _ => rfl) (fun h1 H1 => ?_)
  clear H
  revert H1
  generalize mz_si rs 0 0 = rs
  clear h
  intro H
  generalize h1 = h at H ⊢
  obtain ⟨n, m, ad, lv, mk, mm, gi, go, gj, hR, w⟩ := id H
  obtain ⟨wc, wm, wo, wt, wl, wq, wa, wv⟩ := id w
  obtain rfl : ad (1, 0, 0, 0) = o := wa
  have hn40 := wc.1
  have hm60 := wo.1
  rcases mz_no x (show n < 2 ^ 31 by omega) with hx | ⟨j, hj, rfl⟩
  · exact mz_Ok.same H (-1) (by simp only [cg_1_0 hR, ci_2 hR, cs_typeOf_no hR hx, zo_s, zc_t, zl_0, zr_e, z_0, z_1, if_true]) (by simp only [mz_RH_is, rs_isClass_no q h.2 wc.2.1 hx, zo_s, zc_t, zl_0, zr_e, z_0, z_1, if_true])
  by_cases c1 : y < 0
  · exact mz_Ok.same H (-2) (by simp only [cg_1_0 hR, ci_2 hR, cs_typeOf hR wc.1 hj, if_neg smn, if_pos c1, zo_s, zc_t, zl_0, zr_e, z_0, z_1, if_true]) (by simp only [mz_RH_is, rs_isClass q h.2 wc.2.1 wc.1 hj, if_neg one0, rs_within, if_pos c1, zo_s, zc_t, zl_0, zr_e, z_0, z_1, if_true])
  by_cases c2 : y < 3
  case neg =>
    have c2' : (2 : Int32) < y := Int32.lt_of_lt_of_le (by decide) (Int32.not_lt.mp c2)
    exact mz_Ok.same H (-2) (by simp only [cg_1_0 hR, ci_2 hR, cs_typeOf hR wc.1 hj, if_neg smn, if_neg c1, cg_6_9 hR hj, cl_10a hR hj, i03, if_neg c2, zo_s, zc_t, zl_0, zr_e, z_0, z_1, if_true]) (by simp only [mz_RH_is, rs_isClass q h.2 wc.2.1 wc.1 hj, if_neg one0, rs_within, if_neg c1, if_pos c2', zo_s, zc_t, zl_0, zr_e, z_0, z_1, if_true])
  obtain ⟨i, hi, rfl⟩ : ∃ i : Nat, i < 3 ∧ y = nI i := by
    rcases pk_ix y (show 3 < 2 ^ 31 by omega) with q | q | q
    · exact absurd q c1
    · exact absurd c2 (Int32.not_lt.mpr q)
    · exact q
  have c2' : ¬ (2 : Int32) < nI i := nI_nlt (show i ≤ 2 by omega) (show 2 < 2 ^ 31 by omega)
  rcases (show i = 0 ∨ i = 1 ∨ i = 2 by omega) with rfl | rfl | rfl
  · refine mz_Ok.cong ?_ (fun sz => ?_) (ok_tupd hR w hj hi z)
    · simp only [cg_1_0 hR, ci_2 hR, cs_typeOf hR wc.1 hj, if_neg smn, if_neg c1, cg_6_9 hR hj, cl_10a hR hj, i03, if_pos c2, if_neg i01, if_neg i02, fn_X11_tally_b52, zo_s, zc_t, zl_0, zr_e, z_0, z_1, if_true]
    · simp only [mz_RH_is, rs_isClass q sz wc.2.1 wc.1 hj, if_neg one0, rs_within, if_neg c1, if_neg c2', if_neg i01, if_neg i02, fn_X12_tally_b40, zo_s, zc_t, zl_0, zr_e, z_0, z_1, if_true]
  · by_cases f1 : (if rs.2.1 3 j = 0 then (1 : Int32) else if rs.2.1 3 j = 3 then 1 else 0) = 0
    · refine ok_fail H 2 ?_ (fun sz => ?_)
      · simp only [cg_1_0 hR, ci_2 hR, cs_typeOf hR wc.1 hj, if_neg smn, if_neg c1, cg_6_9 hR hj, cl_10a hR hj, i03, if_pos c2, if_pos i11, ci_6 hR hj, cs_plain hR hj, if_pos f1, fn_X11_tally_b66, zo_s, zc_t, zl_0, zr_e, z_0, z_1, if_true]
      · simp only [mz_RH_is, rs_isClass q sz wc.2.1 wc.1 hj, if_neg one0, rs_within, if_neg c1, if_neg c2', if_pos i11, rs_concrete q sz (show j < 40 by omega), if_pos f1, fn_X12_tally_b55, zo_s, zc_t, zl_0, zr_e, z_0, z_1, if_true]
    · refine mz_Ok.cong ?_ (fun sz => ?_) (ok_tupd hR w hj hi z)
      · simp only [cg_1_0 hR, ci_2 hR, cs_typeOf hR wc.1 hj, if_neg smn, if_neg c1, cg_6_9 hR hj, cl_10a hR hj, i03, if_pos c2, if_pos i11, ci_6 hR hj, cs_plain hR hj, if_neg f1, if_neg i12, fn_X11_tally_b52, zo_s, zc_t, zl_0, zr_e, z_0, z_1, if_true]
      · simp only [mz_RH_is, rs_isClass q sz wc.2.1 wc.1 hj, if_neg one0, rs_within, if_neg c1, if_neg c2', if_pos i11, rs_concrete q sz (show j < 40 by omega), if_neg f1, if_neg i12, fn_X12_tally_b40, zo_s, zc_t, zl_0, zr_e, z_0, z_1, if_true]
  · by_cases f1 : rs.2.1 3 j = 3
    · refine mz_Ok.cong ?_ (fun sz => ?_) (ok_tupd hR w hj hi z)
      · simp only [cg_1_0 hR, ci_2 hR, cs_typeOf hR wc.1 hj, if_neg smn, if_neg c1, cg_6_9 hR hj, cl_10a hR hj, i03, if_pos c2, if_neg i21, if_pos i22, cg_6_0 hR hj, if_pos f1, fn_X11_tally_b52, zo_s, zc_t, zl_0, zr_e, z_0, z_1, if_true]
      · simp only [mz_RH_is, rs_isClass q sz wc.2.1 wc.1 hj, if_neg one0, rs_within, if_neg c1, if_neg c2', if_neg i21, if_pos i22, rr_3, ra_3, ix_nI (show j < 40 by omega) (show 40 < 2 ^ 31 by omega), cl_nI (show j < 2 ^ 31 by omega), if_pos f1, fn_X12_tally_b40, zo_s, zc_t, zl_0, zr_e, z_0, z_1, if_true]
    · refine ok_fail H 2 ?_ (fun sz => ?_)
      · simp only [cg_1_0 hR, ci_2 hR, cs_typeOf hR wc.1 hj, if_neg smn, if_neg c1, cg_6_9 hR hj, cl_10a hR hj, i03, if_pos c2, if_neg i21, if_pos i22, cg_6_0 hR hj, if_neg f1, fn_X11_tally_b52, fn_X11_tally_b66, zo_s, zc_t, zl_0, zr_e, z_0, z_1, if_true]
      · simp only [mz_RH_is, rs_isClass q sz wc.2.1 wc.1 hj, if_neg one0, rs_within, if_neg c1, if_neg c2', if_neg i21, if_pos i22, rr_3, ra_3, ix_nI (show j < 40 by omega) (show 40 < 2 ^ 31 by omega), cl_nI (show j < 2 ^ 31 by omega), if_neg f1, fn_X12_tally_b40, fn_X12_tally_b55, zo_s, zc_t, zl_0, zr_e, z_0, z_1, if_true]
theorem k_offer {VB o q l : Nat} {rs : mz_RS} {h : mz_H} (H : mz_In VB o (l + 1) rs h) (x : Int32) : mz_Ok VB o q l rs (fun h => fn_X11_offer h (some o) x) (fun h => fn_X12_offer h (some q) x) h := by
  refine ok_flt H (fun _ => rfl) (fun _ => rfl) (fun h1 H1 => ?_)
  clear H
  revert H1
  generalize mz_si rs 0 0 = rs
  clear h
  intro H
  generalize h1 = h at H ⊢
  obtain ⟨n, m, ad, lv, mk, mm, gi, go, gj, hR, w⟩ := id H
  obtain ⟨wc, wm, wo, wt, wl, wq, wa, wv⟩ := id w
  obtain rfl : ad (1, 0, 0, 0) = o := wa
  have hn40 := wc.1
  have hm60 := wo.1
  rcases mz_no x (show n < 2 ^ 31 by omega) with hx | ⟨j, hj, rfl⟩
  · exact mz_Ok.same H (-1) (by simp only [cg_1_0 hR, ci_2 hR, cs_typeOf_no hR hx, zo_s, zc_t, zl_0, zr_e, z_0, z_1, if_true]) (by simp only [mz_RH_is, rs_isClass_no q h.2 wc.2.1 hx, zo_s, zc_t, zl_0, zr_e, z_0, z_1, if_true])
  by_cases f1 : (if rs.2.1 3 j = 0 then (1 : Int32) else if rs.2.1 3 j = 3 then 1 else 0) = 0
  · refine ok_fail H 2 ?_ (fun sz => ?_)
    · simp only [cg_1_0 hR, ci_2 hR, cs_typeOf hR wc.1 hj, if_neg smn, ci_6 hR hj, cs_plain hR hj, if_pos f1, zo_s, zc_t, zl_0, zr_e, z_0, z_1, if_true]
    · simp only [mz_RH_is, rs_isClass q sz wc.2.1 wc.1 hj, if_neg one0, rs_concrete q sz (show j < 40 by omega), if_pos f1, zo_s, zc_t, zl_0, zr_e, z_0, z_1, if_true]
  by_cases f3 : rs.2.1 3 j = 3
  · have p1 : (if rs.2.1 3 j = 0 then (1 : Int32) else if rs.2.1 3 j = 3 then 1 else 0) = 1 := by simp [f3]
    have hP := cs_plain hR hj
    have hC : ∀ sz, _ := fun sz => rs_concrete (rs := rs) q sz (show j < 40 by omega)
    rw [p1] at hP
    simp only [p1] at hC
    refine mz_Ok.same H 24 ?_ ?_
    · simp only [cg_1_0 hR, ci_2 hR, cs_typeOf hR wc.1 hj, if_neg smn, ci_6 hR hj, hP, if_neg one0, cg_6_0 hR hj, cs_cost hR hj, f3, show ¬ (3 : Int32) = 0 by decide, show ¬ (3 : Int32) = 2 by decide, if_false, zo_s, zc_t, zl_0, zr_e, z_0, z_1, if_true]
      rfl
    · simp only [mz_RH_is, rs_isClass q h.2 wc.2.1 wc.1 hj, hC, if_neg one0, rr_3, ra_3, ix_nI (show j < 40 by omega) (show 40 < 2 ^ 31 by omega), cl_nI (show j < 2 ^ 31 by omega), f3, zo_s, zc_t, zl_0, zr_e, z_0, z_1, if_true]
  · have f0 : rs.2.1 3 j = 0 := by
      by_cases f0 : rs.2.1 3 j = 0
      · exact f0
      · exact absurd (by simp [f0, f3]) f1
    have p1 : (if rs.2.1 3 j = 0 then (1 : Int32) else if rs.2.1 3 j = 3 then 1 else 0) = 1 := by simp [f0]
    have hP := cs_plain hR hj
    have hC : ∀ sz, _ := fun sz => rs_concrete (rs := rs) q sz (show j < 40 by omega)
    rw [p1] at hP
    simp only [p1] at hC
    refine mz_Ok.same H (10 + nI (mk j)) ?_ ?_
    · simp only [cg_1_0 hR, ci_2 hR, cs_typeOf hR wc.1 hj, if_neg smn, ci_6 hR hj, hP, if_neg one0, cg_6_0 hR hj, cs_cost hR hj, f0, show ¬ (0 : Int32) = 3 by decide, if_false, cg_6_8 hR hj, zo_s, zc_t, zl_0, zr_e, z_0, z_1, if_true]
    · simp only [mz_RH_is, rs_isClass q h.2 wc.2.1 wc.1 hj, hC, if_neg one0, rr_3, ra_3, rr_9, ra_9, ix_nI (show j < 40 by omega) (show 40 < 2 ^ 31 by omega), cl_nI (show j < 2 ^ 31 by omega), f0, show ¬ (0 : Int32) = 3 by decide, if_false, (wm.1 j hj).2, zo_s, zc_t, zl_0, zr_e, z_0, z_1, if_true]
theorem k_entry {VB o q l : Nat} {rs : mz_RS} {h : mz_H} (H : mz_In VB o (l + 1) rs h) (x y : Int32) : mz_Ok VB o q l rs (fun h => fn_X11_entry h (some o) x y) (fun h => fn_X12_entry h (some q) x y) h := by
  obtain ⟨n, m, ad, lv, mk, mm, gi, go, gj, hR, w⟩ := id H
  obtain ⟨wc, wm, wo, wt, wl, wq, wa, wv⟩ := id w
  obtain rfl : ad (1, 0, 0, 0) = o := wa
  have hn40 := wc.1
  have hm60 := wo.1
  obtain ⟨t, ht, e30, hrow⟩ := wt
  have z2 : (0 : Nat) < 2 := by decide
  have g2 : mz_fI h (some (ad (12, 0, 0, 0))) 6 2 = some (nI t) := by rw [cg_12_2 hR z2, if_pos rfl, e30]
  rcases mz_no x (show t < 2 ^ 31 by omega) with hx | ⟨j, hj, rfl⟩
  · refine mz_Ok.same H (-1) ?_ ?_
    · by_cases c1 : x < 0
      · simp only [fn_X11_entry, cg_1_1 hR, ci_12 hR z2, fn_X7_entryAt, if_pos c1, zo_s, zc_t, zl_0, zr_e, z_0, z_1, if_true]
      · simp only [fn_X11_entry, cg_1_1 hR, ci_12 hR z2, fn_X7_entryAt, if_neg c1, g2, if_pos (hx.resolve_left c1), zo_s, zc_t, zl_0, zr_e, z_0, z_1, if_true]
    · by_cases c1 : x < 0
      · simp only [fn_X12_entry, if_pos c1, zo_s, zc_t, zl_0, zr_e, z_0, z_1, if_true]
      · simp only [fn_X12_entry, if_neg c1, rg_30, e30, if_neg (Int32.not_lt.mpr (hx.resolve_left c1)), zo_s, zc_t, zl_0, zr_e, z_0, z_1, if_true]
  · obtain ⟨k, hk, g0, r0, r1, r2, r3, r4, r5, r6⟩ := hrow j hj
    have gA : mz_aR h (some (ad (14, 0, 0, 0))) 11 (nI j) = some (some (ad (15, 0, k, 0))) := by
      rw [ca_14 hR z2, ix_nI (show j < 31 by omega) (by omega), cl_nI (by omega)]
      simp [g0]
    have A : ∀ f : mz_H → mz_Res Int32, (fn_X11_entry h (some (ad (1, 0, 0, 0))) (nI j) y = (if y = 0 then some (nI k, h, 0, 0) else if y = 1 then some (gi 2 k 1, h, 0, 0) else if y = 2 then some (gi 2 k 2, h, 0, 0) else if y = 3 then some (gi 2 k 3, h, 0, 0) else if y = 4 then some (gi 2 k 4, h, 0, 0) else if y = 5 then some (gi 2 k 5, h, 0, 0) else if y = 6 then some (gi 2 k 6, h, 0, 0) else some (-2, h, 0, 0))) := by
      intro _
      simp only [fn_X11_entry, cg_1_1 hR, ci_12 hR z2, fn_X7_entryAt, if_neg (nI_pos (show j < 2 ^ 31 by omega)), g2, if_neg (nI_ge hj (show t < 2 ^ 31 by omega)), cg_12_1 hR z2, gA, if_neg smn, cg_15_0 hR z2 hk, cg_15_1 hR z2 hk, cg_15_2 hR z2 hk, cg_15_3 hR z2 hk, cg_15_4 hR z2 hk, cg_15_5 hR z2 hk, cg_15_6 hR z2 hk, Nat.add_zero, zo_s, zc_t, zl_0, zr_e, z_0, z_1, if_true]
    by_cases c1 : y < 0
    · have nn : ∀ b : Nat, b < 100 → ¬ y = nI b := fun b hb e => nI_pos (show b < 2 ^ 31 by omega) (e ▸ c1)
      refine mz_Ok.same H (-2) ?_ ?_
      · show fn_X11_entry h (some (ad (1, 0, 0, 0))) (nI j) y = _
        rw [A (fun _ => none), if_neg (show ¬ y = 0 from nn 0 (by omega)), if_neg (show ¬ y = 1 from nn 1 (by omega)), if_neg (show ¬ y = 2 from nn 2 (by omega)), if_neg (show ¬ y = 3 from nn 3 (by omega)), if_neg (show ¬ y = 4 from nn 4 (by omega)), if_neg (show ¬ y = 5 from nn 5 (by omega)), if_neg (show ¬ y = 6 from nn 6 (by omega))]
      · simp only [fn_X12_entry, if_neg (nI_pos (show j < 2 ^ 31 by omega)), rg_30, e30, if_pos (nI_lt hj (show t < 2 ^ 31 by omega)), rs_within, if_pos c1, zo_s, zc_t, zl_0, zr_e, z_0, z_1, if_true]
    by_cases c2 : 6 < y
    · have nn : ∀ b : Nat, b ≤ 6 → ¬ y = nI b := fun b hb e => nI_nlt hb (show 6 < 2 ^ 31 by omega) (e ▸ c2)
      refine mz_Ok.same H (-2) ?_ ?_
      · show fn_X11_entry h (some (ad (1, 0, 0, 0))) (nI j) y = _
        rw [A (fun _ => none), if_neg (show ¬ y = 0 from nn 0 (by omega)), if_neg (show ¬ y = 1 from nn 1 (by omega)), if_neg (show ¬ y = 2 from nn 2 (by omega)), if_neg (show ¬ y = 3 from nn 3 (by omega)), if_neg (show ¬ y = 4 from nn 4 (by omega)), if_neg (show ¬ y = 5 from nn 5 (by omega)), if_neg (show ¬ y = 6 from nn 6 (by omega))]
      · simp only [fn_X12_entry, if_neg (nI_pos (show j < 2 ^ 31 by omega)), rg_30, e30, if_pos (nI_lt hj (show t < 2 ^ 31 by omega)), rs_within, if_neg c1, if_pos c2, zo_s, zc_t, zl_0, zr_e, z_0, z_1, if_true]
    obtain ⟨i, hi, rfl⟩ : ∃ i : Nat, i < 7 ∧ y = nI i := by
      rcases pk_ix y (show 7 < 2 ^ 31 by omega) with q | q | q
      · exact absurd q c1
      · exact absurd (Int32.lt_of_lt_of_le (by decide) q) c2
      · exact q
    have M : ∀ r, rs.2.1 31 (7 * j + i) = r → fn_X12_entry (mz_RH q h.2 rs) (some q) (nI j) (nI i) = some (r, mz_RH q h.2 rs, 0, 0) := fun r er => by
      simp only [fn_X12_entry, if_neg (nI_pos (show j < 2 ^ 31 by omega)), rg_30, e30, if_pos (nI_lt hj (show t < 2 ^ 31 by omega)), rs_within, if_neg c1, if_neg c2, if_neg one0, l7, rr_31, ra_31, ix_nI (show 7 * j + i < 217 by omega) (show 217 < 2 ^ 31 by omega), cl_nI (show 7 * j + i < 2 ^ 31 by omega), er, zo_s, zc_t, zl_0, zr_e, z_0, z_1, if_true]
    rcases (show i = 0 ∨ i = 1 ∨ i = 2 ∨ i = 3 ∨ i = 4 ∨ i = 5 ∨ i = 6 by omega) with rfl | rfl | rfl | rfl | rfl | rfl | rfl
    · exact mz_Ok.same H (nI k) ((A (fun _ => none)).trans rfl) (M _ r0)
    · exact mz_Ok.same H (gi 2 k 1) ((A (fun _ => none)).trans rfl) (M _ r1)
    · exact mz_Ok.same H (gi 2 k 2) ((A (fun _ => none)).trans rfl) (M _ r2)
    · exact mz_Ok.same H (gi 2 k 3) ((A (fun _ => none)).trans rfl) (M _ r3)
    · exact mz_Ok.same H (gi 2 k 4) ((A (fun _ => none)).trans rfl) (M _ r4)
    · exact mz_Ok.same H (gi 2 k 5) ((A (fun _ => none)).trans rfl) (M _ r5)
    · exact mz_Ok.same H (gi 2 k 6) ((A (fun _ => none)).trans rfl) (M _ r6)

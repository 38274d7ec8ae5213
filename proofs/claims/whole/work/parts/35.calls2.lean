/-! calls that read, or write a number -/
theorem one0 : ¬ (1 : Int32) = 0 := by decide
theorem n9 : nI 0 = 0 := rfl
section
variable {VB : Nat} {n m : Nat} {rs : mz_RS} {ad : mz_T → Nat} {lv : Nat → Int32} {mk : Nat → Nat} {mm : Nat → Nat → Nat × Nat} {gi : Nat → Nat → Nat → Int32} {go : Nat → Nat → Option Nat} {gj : Nat → Nat → Int64} {h : mz_H}
theorem cs_plain (hR : mz_Rp VB n m rs ad lv mk mm gi go gj h) {j : Nat} (hj : j < n) : fn_X9_isPlainOrRecord h (some (ad (6, j, 0, 0))) = some (if rs.2.1 3 j = 0 then 1 else if rs.2.1 3 j = 3 then 1 else 0, h, 0, 0) := by
  simp only [fn_X9_isPlainOrRecord, fn_X9_isPlainOrRecord_b15, cg_6_0 hR hj, zo_s, zc_t, zl_0, zr_e, z_0, z_1, if_true]
  split
  · rfl
  · split <;> rfl
theorem rs_concrete (q sz : Nat) {j : Nat} (hj : j < 40) : fn_X12_isConcrete (mz_RH q sz rs) (some q) (nI j) = some (if rs.2.1 3 j = 0 then 1 else if rs.2.1 3 j = 3 then 1 else 0, mz_RH q sz rs, 0, 0) := by
  simp only [fn_X12_isConcrete, fn_X12_isConcrete_b19, rr_3, ra_3, ix_nI (show j < 40 by omega) (show 40 < 2 ^ 31 by omega), cl_nI (show j < 2 ^ 31 by omega), zo_s, zc_t, zl_0, zr_e, z_0, z_1, if_true]
  split
  · rfl
  · split <;> rfl
theorem cs_cost (hR : mz_Rp VB n m rs ad lv mk mm gi go gj h) {j : Nat} (hj : j < n) : fn_X9_cost h (some (ad (6, j, 0, 0))) = some (if rs.2.1 3 j = 0 then 10 else if rs.2.1 3 j = 2 then 7 else if rs.2.1 3 j = 3 then 12 else if rs.2.1 3 j = 5 then 6 else 5, h, 0, 0) := by
  simp only [fn_X9_cost, cg_6_0 hR hj, zo_s, zc_t, zl_0, zr_e, z_0, z_1, if_true]
  repeat' split
  all_goals rfl
theorem rs_cost (q sz : Nat) {j : Nat} (hj : j < 40) : fn_X12_cost (mz_RH q sz rs) (some q) (nI j) = some (if rs.2.1 3 j = 0 then 10 else if rs.2.1 3 j = 2 then 7 else if rs.2.1 3 j = 3 then 12 else if rs.2.1 3 j = 5 then 6 else 5, mz_RH q sz rs, 0, 0) := by
  simp only [fn_X12_cost, rr_3, ra_3, ix_nI (show j < 40 by omega) (show 40 < 2 ^ 31 by omega), cl_nI (show j < 2 ^ 31 by omega), zo_s, zc_t, zl_0, zr_e, z_0, z_1, if_true]
  repeat' split
  all_goals rfl
theorem cs_isLane (h : mz_H) (x : Int32) : fn_X11_isNumberLane h x = some (if x < 0 then 0 else if 7 < x then 0 else 1, h, 0, 0) := by
  simp only [fn_X11_isNumberLane, zo_s, zc_t, zl_0, zr_e, z_0, z_1, if_true]
  repeat' split
  all_goals rfl
theorem cs_isName (h : mz_H) (x : Int32) : fn_X11_isName h x = some (if x < 0 then 0 else if 31 ≤ x then 0 else 1, h, 0, 0) := by
  simp only [fn_X11_isName, zo_s, zc_t, zl_0, zr_e, z_0, z_1, if_true]
  repeat' split
  all_goals rfl
theorem cs_isList (h : mz_H) (x : Int32) : fn_X11_isList h x = some (if x < 0 then 0 else if 4 ≤ x then 0 else 1, h, 0, 0) := by
  simp only [fn_X11_isList, zo_s, zc_t, zl_0, zr_e, z_0, z_1, if_true]
  repeat' split
  all_goals rfl
theorem cw_tally (hR : mz_Rp VB n m rs ad lv mk mm gi go gj h) {c i : Nat} (hc : c < n) (hi : i < 3) (v : Int32) : ∃ h', mz_sI h (some (ad (10, c, 0, 0))) 0 (nI i) v = some h' ∧ mz_Rp VB n m (mz_sa rs 15 (3 * c + i) v) ad lv mk mm gi go gj h' ∧ h'.2 = h.2 := by
  refine ⟨_, sI_of (cc_10 hR hc) (ix_nI hi (by omega)), hR.up 10 c 0 0 (Or.inl ?_) (cb_10 hR hc) ?_, rfl⟩
  · show mz_f10 n m (mz_sa rs 15 (3 * c + i) v) ad lv mk mm gi go gj c 0 0 = _
    rw [mz_f10, if_pos ⟨hc, rfl, rfl⟩, cl_nI (by omega)]
    refine congrArg (fun f => some (Sum.inl (0, 3, Sum.inl f))) (funext fun k => ?_)
    by_cases hk : k = i
    · subst hk
      simp [mz_sa, upd, hi]
    · have : ¬ 3 * c + k = 3 * c + i := by omega
      simp [mz_sa, upd, hk, this]
  · apply mz_hs <;> first | (exact fun _ _ _ _ => Or.inl rfl) | skip
    intro i' j' k' hne
    refine Or.inl ?_
    unfold mz_f10
    by_cases hq : i' < n ∧ j' = 0 ∧ k' = 0
    · rw [if_pos hq, if_pos hq]
      refine congrArg (fun f => some (Sum.inl (0, 3, Sum.inl f))) (funext fun k => ?_)
      have hic : i' ≠ c := fun e => hne ⟨rfl, e, hq.2.1, hq.2.2⟩
      by_cases hk : k < 3
      · have : ¬ 3 * i' + k = 3 * c + i := by omega
        simp [mz_sa, upd, this]
      · simp [hk]
    · rw [if_neg hq, if_neg hq]
end
theorem mz_In.tally {VB o l c i : Nat} {rs : mz_RS} {h h' : mz_H} {v : Int32} {n m : Nat} {ad : mz_T → Nat} {lv : Nat → Int32} {mk : Nat → Nat} {mm : Nat → Nat → Nat × Nat} {gi : Nat → Nat → Nat → Int32} {go : Nat → Nat → Option Nat} {gj : Nat → Nat → Int64} (hR : mz_Rp VB n m (mz_sa rs 15 (3 * c + i) v) ad lv mk mm gi go gj h') (hc : c < n) (hi : i < 3) (hs : h'.2 = h.2)
    (w : mz_wc n rs lv ∧ mz_wm n rs mk mm ∧ mz_wo n m rs ∧ mz_wt0 rs gi go ∧ mz_wl n rs ∧ mz_wq rs gj ∧ ad (1, 0, 0, 0) = o ∧ h.2 + 40 * (l + 1) + 1100 * (60 - m) ≤ VB) : mz_In VB o l (mz_sa rs 15 (3 * c + i) v) h' := by
  obtain ⟨w1, w2, w3, w4, w5, w6, w7, w8⟩ := w
  refine ⟨n, m, ad, lv, mk, mm, gi, go, gj, hR, ?_, w2, w3, w4, w5, w6, w7, by omega⟩
  obtain ⟨a1, a2, a3, a4, a5, a6, a7, a8, a9, a10⟩ := w1
  refine ⟨a1, a2, a3, a4, a5, a6, a7, a8, fun p hp => ⟨(a9 p hp).1, ?_⟩, a10⟩
  have : ¬ p = 3 * c + i := by omega
  show upd (rs.2.1 15) (3 * c + i) v p = 0
  rw [pk_un this]
  exact (a9 p hp).2
theorem k_of {VB o q l : Nat} {rs : mz_RS} {h : mz_H} (H : mz_In VB o (l + 1) rs h) (x y : Int32) : mz_Ok VB o q l rs (fun h => fn_X11_of h (some o) x y) (fun h => fn_X12_of h (some q) x y) h := by
  obtain ⟨n, m, ad, lv, mk, mm, gi, go, gj, hR, w⟩ := id H
  obtain ⟨wc, wm, wo, wt, wl, wq, wa, wv⟩ := id w
  obtain rfl : ad (1, 0, 0, 0) = o := wa
  have hn40 := wc.1
  have hm60 := wo.1
  rcases mz_no x (show m < 2 ^ 31 by omega) with hx | ⟨j, hj, rfl⟩
  · exact mz_Ok.same H (-1) (by simp only [fn_X11_of, ci_1 hR, cs_thingOf_no hR hx, zo_s, zc_t, zl_0, zr_e, z_0, z_1, if_true]) (by simp only [fn_X12_of, mz_RH_is, rs_isObject_no q h.2 wo.2.1 hx, zo_s, zc_t, zl_0, zr_e, z_0, z_1, if_true])
  · have e : ¬ (some (ad (17, j, 0, 0)) : Option Nat) = none := fun q => by cases q
    refine mz_Ok.same H (if y = 0 then rs.2.1 33 j else if y = 1 then rs.2.1 34 j else (-2)) ?_ ?_
    · simp only [fn_X11_of, ci_1 hR, cs_thingOf hR wo.1 hj, if_neg e, cg_17_0 hR hj, cg_17_1 hR hj, cl_18a hR hj, zo_s, zc_t, zl_0, zr_e, z_0, z_1, if_true, show Int32.ofNat (mz_sl rs j) = rs.2.1 34 j from (mz_sl_le wo hj).2.symm]
      split
      · rfl
      · split <;> rfl
    · simp only [fn_X12_of, mz_RH_is, rs_isObject q h.2 wo.2.1 wo.1 hj, if_neg one0, rr_33, ra_33, rr_34, ra_34, ix_nI (show j < 60 by omega) (show 60 < 2 ^ 31 by omega), cl_nI (show j < 2 ^ 31 by omega), zo_s, zc_t, zl_0, zr_e, z_0, z_1, if_true]
      split
      · rfl
      · split <;> rfl
theorem k_kind {VB o q l : Nat} {rs : mz_RS} {h : mz_H} (H : mz_In VB o (l + 1) rs h) (x y z : Int32) : mz_Ok VB o q l rs (fun h => fn_X11_kind h (some o) x y z) (fun h => fn_X12_kind h (some q) x y z) h := by
  obtain ⟨n, m, ad, lv, mk, mm, gi, go, gj, hR, w⟩ := id H
  obtain ⟨wc, wm, wo, wt, wl, wq, wa, wv⟩ := id w
  obtain rfl : ad (1, 0, 0, 0) = o := wa
  have hn40 := wc.1
  have hm60 := wo.1
  rcases mz_noS wo x y with hx | ⟨j, t, hj, ht, rfl, rfl⟩
  · exact mz_Ok.same H (-1) (by simp only [fn_X11_kind, ci_1 hR, cs_slotOf_no hR wo hx, zo_s, zc_t, zl_0, zr_e, z_0, z_1, if_true]) (by simp only [fn_X12_kind, mz_RH_is, rs_isSlot_no q h.2 wo hx, zo_s, zc_t, zl_0, zr_e, z_0, z_1, if_true])
  · have e : ¬ (some (ad (19, j, t, 0)) : Option Nat) = none := fun q => by cases q
    have h16 := (mz_sl_le wo hj).1
    refine mz_Ok.same H (if z = 0 then rs.2.1 35 (16 * j + t) else if z = 1 then rs.2.1 36 (16 * j + t) else if z = 2 then rs.2.1 37 (16 * j + t) else if z = 3 then rs.2.1 38 (16 * j + t) else (-2)) ?_ ?_
    · simp only [fn_X11_kind, ci_1 hR, cs_slotOf hR wo hj ht, if_neg e, cg_19_0 hR hj ht, cg_19_1 hR hj ht, cg_19_2 hR hj ht, cg_19_3 hR hj ht, zo_s, zc_t, zl_0, zr_e, z_0, z_1, if_true]
      repeat' split
      all_goals rfl
    · simp only [fn_X12_kind, mz_RH_is, rs_isSlot q h.2 wo hj ht, if_neg one0, rr_35, ra_35, rr_36, ra_36, rr_37, ra_37, rr_38, ra_38, l16, ix_nI (show 16 * j + t < 960 by omega) (show 960 < 2 ^ 31 by omega), cl_nI (show 16 * j + t < 2 ^ 31 by omega), zo_s, zc_t, zl_0, zr_e, z_0, z_1, if_true]
      repeat' split
      all_goals rfl
theorem k_broken {VB o q l : Nat} {rs : mz_RS} {h : mz_H} (H : mz_In VB o (l + 1) rs h) (x : Int32) : mz_Ok VB o q l rs (fun h => fn_X11_broken h (some o) x) (fun h => fn_X12_broken h (some q) x) h := by
  obtain ⟨n, m, ad, lv, mk, mm, gi, go, gj, hR, w⟩ := id H
  obtain ⟨wc, wm, wo, wt, wl, wq, wa, wv⟩ := id w
  obtain rfl : ad (1, 0, 0, 0) = o := wa
  have hn40 := wc.1
  have hm60 := wo.1
  have z2 : (0 : Nat) < 2 := by decide
  refine mz_Ok.same H (if x = 0 then rs.1 26 else if x = 1 then rs.1 27 else if x = 2 then rs.1 28 else if x = 3 then rs.1 29 else (-2)) ?_ ?_
  · simp only [fn_X11_broken, cg_1_1 hR, cg_12_3 hR z2, cg_12_4 hR z2, cg_12_5 hR z2, cg_12_6 hR z2, zo_s, zc_t, zl_0, zr_e, z_0, z_1, if_true]
    repeat' split
    all_goals rfl
  · simp only [fn_X12_broken, rg_26, rg_27, rg_28, rg_29, zo_s, zc_t, zl_0, zr_e, z_0, z_1, if_true]
    repeat' split
    all_goals rfl
theorem k_hold {VB o q l : Nat} {rs : mz_RS} {h : mz_H} (H : mz_In VB o (l + 1) rs h) (x y z : Int32) : mz_Ok VB o q l rs (fun h => fn_X11_hold h (some o) x y z) (fun h => fn_X12_hold h (some q) x y z) h := by
  obtain ⟨n, m, ad, lv, mk, mm, gi, go, gj, hR, w⟩ := id H
  obtain ⟨wc, wm, wo, wt, wl, wq, wa, wv⟩ := id w
  obtain rfl : ad (1, 0, 0, 0) = o := wa
  have hn40 := wc.1
  have hm60 := wo.1
  rcases mz_no x (show n < 2 ^ 31 by omega) with hx | ⟨j, hj, rfl⟩
  · exact mz_Ok.same H (-1) (by simp only [fn_X11_hold, cg_1_0 hR, ci_2 hR, cs_typeOf_no hR hx, zo_s, zc_t, zl_0, zr_e, z_0, z_1, if_true]) (by simp only [fn_X12_hold, mz_RH_is, rs_isClass_no q h.2 wc.2.1 hx, zo_s, zc_t, zl_0, zr_e, z_0, z_1, if_true])
  · have e : ¬ (some (ad (6, j, 0, 0)) : Option Nat) = none := fun q => by cases q
    by_cases c1 : y < 1
    · exact mz_Ok.same H (-2) (by simp only [fn_X11_hold, cg_1_0 hR, ci_2 hR, cs_typeOf hR wc.1 hj, if_neg e, if_pos c1, zo_s, zc_t, zl_0, zr_e, z_0, z_1, if_true]) (by simp only [fn_X12_hold, mz_RH_is, rs_isClass q h.2 wc.2.1 wc.1 hj, if_neg one0, rs_within, if_pos c1, zo_s, zc_t, zl_0, zr_e, z_0, z_1, if_true])
    by_cases c2 : y ≤ 20
    · obtain ⟨h1, e1, R1, s1⟩ := cw_tally hR hj (show 0 < 3 by omega) (rs.2.1 15 (3 * j) + y * z)
      refine ⟨rs.2.1 15 (3 * j) + y * z, h1, 0, 0, mz_sa rs 15 (3 * j + 0) (rs.2.1 15 (3 * j) + y * z), ?_, ?_, mz_In.tally R1 hj (by omega) s1 w, Nat.le_of_eq s1.symm, Nat.le_refl _, by omega, by omega⟩
      · have e1' : mz_sI h (some (ad (10, j, 0, 0))) 0 0 (rs.2.1 15 (3 * j) + y * z) = some h1 := e1
        have a1 : mz_aI h1 (some (ad (10, j, 0, 0))) 0 0 = some (rs.2.1 15 (3 * j) + y * z) := by
          rw [ca_10 R1 hj]
          simp [mz_ix, mz_sa, upd]
        have a0 : mz_aI h (some (ad (10, j, 0, 0))) 0 0 = some (rs.2.1 15 (3 * j)) := by
          rw [ca_10 hR hj]
          simp [mz_ix]
        have g1 : mz_fR h1 (some (ad (6, j, 0, 0))) 8 9 = some (some (ad (10, j, 0, 0))) := cg_6_9 R1 hj
        simp only [fn_X11_hold, cg_1_0 hR, ci_2 hR, cs_typeOf hR wc.1 hj, if_neg e, if_neg c1, if_pos c2, cg_6_9 hR hj, a0, e1', g1, a1, zo_s, zc_t, zl_0, zr_e, z_0, z_1, if_true]
      · have c3 := Int32.not_lt.mpr c2
        simp only [fn_X12_hold, mz_RH_is, rs_isClass q h1.2 wc.2.1 wc.1 hj, if_neg one0, rs_within, if_neg c1, if_neg c3, l3', rr_15, ra_15, rw_15, ix_nI (show 3 * j < 120 by omega) (show 120 < 2 ^ 31 by omega), cl_nI (show 3 * j < 2 ^ 31 by omega), zo_s, zc_t, zl_0, zr_e, z_0, z_1, if_true, Nat.add_zero]
        simp [mz_sa, upd]
    · exact mz_Ok.same H (-2) (by simp only [fn_X11_hold, cg_1_0 hR, ci_2 hR, cs_typeOf hR wc.1 hj, if_neg e, if_neg c1, if_neg c2, zo_s, zc_t, zl_0, zr_e, z_0, z_1, if_true]) (by simp only [fn_X12_hold, mz_RH_is, rs_isClass q h.2 wc.2.1 wc.1 hj, if_neg one0, rs_within, if_neg c1, if_pos (Int32.not_le.mp c2), zo_s, zc_t, zl_0, zr_e, z_0, z_1, if_true])

/-! helpers of both sides; the calls that need no more -/
theorem mz_no (c : Int32) {n : Nat} (hn : n < 2 ^ 31) : (c < 0 ∨ nI n ≤ c) ∨ ∃ j : Nat, j < n ∧ c = nI j := by
  rcases pk_ix c hn with h | h | ⟨j, hj, rfl⟩
  · exact Or.inl (Or.inl h)
  · exact Or.inl (Or.inr h)
  · exact Or.inr ⟨j, hj, rfl⟩
theorem ok_flt {α : Type} {VB o q l : Nat} {rs : mz_RS} {h : mz_H} {fx fm gx gm : mz_H → mz_Res α} (H : mz_In VB o (l + 1) rs h) (hx : ∀ h, fx h = mz_op (mz_pF h (some o) 10 8 (.int 0)) gx) (hm : ∀ h, fm h = mz_op (mz_pF h (some q) 11 0 (.int 0)) gm)
    (K : ∀ h1, mz_In VB o (l + 1) (mz_si rs 0 0) h1 → mz_Ok VB o q l (mz_si rs 0 0) gx gm h1) : mz_Ok VB o q l rs fx fm h := by
  obtain ⟨n, m, ad, lv, mk, mm, gi, go, gj, hR, w⟩ := H
  obtain rfl : ad (1, 0, 0, 0) = o := w.2.2.2.2.2.2.1
  obtain ⟨h1, e1, R1, s1⟩ := cw_fault hR 0
  have H1 : mz_In VB (ad (1, 0, 0, 0)) (l + 1) (mz_si rs 0 0) h1 := by
    obtain ⟨w1, w2, w3, w4, w5, w6, w7, w8⟩ := w
    exact ⟨n, m, ad, lv, mk, mm, gi, go, gj, R1, w1, w2, w3, w4, w5, w6, rfl, by rw [s1]; exact w8⟩
  obtain ⟨r, h', k, nn, rs', g1, g2, g3, g4, g5, g6, g7⟩ := K h1 H1
  refine ⟨r, h', k, nn, rs', ?_, ?_, g3, by rw [← s1]; exact g4, g5, g6, g7⟩
  · rw [hx, e1]; exact g1
  · rw [hm, rp_0]; exact g2
theorem ok_fail {VB o q l : Nat} {rs : mz_RS} {h : mz_H} {fx fm : mz_H → mz_Res Int32} (H : mz_In VB o (l + 1) rs h) (x : Int32) (hx : fx h = mz_chk (mz_is h (some o) 10) (mz_call (fn_X11_comeTo h (some o) x) fun v h => mz_ret v h)) (hm : ∀ sz, fm (mz_RH q sz rs) = mz_chk (mz_is (mz_RH q sz rs) (some q) 11) (mz_call (fn_X12_fails (mz_RH q sz rs) (some q) x) fun v h => mz_ret v h)) : mz_Ok VB o q l rs fx fm h := by
  obtain ⟨n, m, ad, lv, mk, mm, gi, go, gj, hR, w⟩ := H
  obtain rfl : ad (1, 0, 0, 0) = o := w.2.2.2.2.2.2.1
  obtain ⟨h1, e1, R1, s1⟩ := cs_comeTo hR x
  refine ⟨(-10) - x, h1, 0, 0, mz_si (mz_si rs 0 x) 1 (rs.1 1 + 1), ?_, ?_, mz_In.num (rs := rs) R1 rfl (fun k hk => ?_) s1 w, Nat.le_of_eq s1.symm, Nat.le_refl _, by omega, by omega⟩
  · rw [hx, ci_1 hR, e1]; simp only [zc_t, zl_0, zr_e]
  · rw [hm, mz_RH_is, rs_fails]; simp only [zc_t, zl_0, zr_e]
  · show (if k = 1 then _ else if k = 0 then x else rs.1 k) = rs.1 k
    rw [if_neg (by omega), if_neg (by omega)]
theorem ok_failJ {VB o q l : Nat} {rs : mz_RS} {h : mz_H} {fx fm : mz_H → mz_Res Int64} (H : mz_In VB o (l + 1) rs h) (x : Int32) (y : Int64) (hx : fx h = mz_call (fn_X11_comeTo h (some o) x) fun _ h => mz_ret y h) (hm : ∀ sz, fm (mz_RH q sz rs) = mz_call (fn_X12_fails (mz_RH q sz rs) (some q) x) fun _ h => mz_ret y h) : mz_Ok VB o q l rs fx fm h := by
  obtain ⟨n, m, ad, lv, mk, mm, gi, go, gj, hR, w⟩ := H
  obtain rfl : ad (1, 0, 0, 0) = o := w.2.2.2.2.2.2.1
  obtain ⟨h1, e1, R1, s1⟩ := cs_comeTo hR x
  refine ⟨y, h1, 0, 0, mz_si (mz_si rs 0 x) 1 (rs.1 1 + 1), ?_, ?_, mz_In.num (rs := rs) R1 rfl (fun k hk => ?_) s1 w, Nat.le_of_eq s1.symm, Nat.le_refl _, by omega, by omega⟩
  · rw [hx, e1]; simp only [zl_0, zr_e]
  · rw [hm, rs_fails]; simp only [zl_0, zr_e]
  · show (if k = 1 then _ else if k = 0 then x else rs.1 k) = rs.1 k
    rw [if_neg (by omega), if_neg (by omega)]
theorem mz_In.is {VB o l : Nat} {rs : mz_RS} {h : mz_H} (H : mz_In VB o l rs h) : mz_is h (some o) 10 = true := by
  obtain ⟨n, m, ad, lv, mk, mm, gi, go, gj, hR, w⟩ := H
  obtain rfl : ad (1, 0, 0, 0) = o := w.2.2.2.2.2.2.1
  exact ci_1 hR
theorem k_trial {VB o q l : Nat} {rs : mz_RS} {h : mz_H} (H : mz_In VB o (l + 1) rs h) (x y : Int32) : mz_Ok VB o q l rs (fun h => fn_X11_trial h (some o) x y) (fun h => fn_X12_trial h (some q) x y) h := by
  refine ok_flt H (fun _ => rfl) (fun _ => rfl) (fun h1 H1 => ?_)
  by_cases c1 : x < 1
  · exact mz_Ok.same H1 (-2) (by simp only [if_pos c1, zr_e]) (by simp only [rs_within, if_pos c1, zl_0, if_true, zr_e])
  by_cases c2 : 7 < x
  · exact mz_Ok.same H1 (-2) (by simp only [if_neg c1, if_pos c2, zr_e]) (by simp only [rs_within, if_neg c1, if_pos c2, zl_0, if_true, zr_e])
  have one : ¬ (1 : Int32) = 0 := by decide
  by_cases c3 : y < 0
  · exact mz_Ok.same H1 (-2) (by simp only [if_neg c1, if_neg c2, if_pos c3, zr_e]) (by simp only [rs_within, if_neg c1, if_neg c2, if_neg one, if_pos c3, zl_0, if_true, zr_e])
  by_cases c4 : y ≤ 15
  · refine ok_fail H1 x (by simp only [if_neg c1, if_neg c2, if_neg c3, if_pos c4]) (fun sz => ?_)
    simp only [rs_within, if_neg c1, if_neg c2, if_neg c3, if_neg one, if_neg (Int32.not_lt.mpr c4), zl_0]
  · exact mz_Ok.same H1 (-2) (by simp only [if_neg c1, if_neg c2, if_neg c3, if_neg c4, zr_e]) (by simp only [rs_within, if_neg c1, if_neg c2, if_neg c3, if_neg one, if_pos (Int32.not_le.mp c4), zl_0, if_true, zr_e])
theorem k_fault {VB o q l : Nat} {rs : mz_RS} {h : mz_H} (H : mz_In VB o (l + 1) rs h) : mz_Ok VB o q l rs (fun h => fn_X11_fault h (some o)) (fun h => fn_X12_fault h (some q)) h := by
  refine mz_Ok.same H (rs.1 0) ?_ ?_
  · obtain ⟨n, m, ad, lv, mk, mm, gi, go, gj, hR, w⟩ := H
    obtain rfl : ad (1, 0, 0, 0) = o := w.2.2.2.2.2.2.1
    simp only [fn_X11_fault, cg_1_8 hR, zo_s, zr_e]
  · simp only [fn_X12_fault, rg_0, zo_s, zr_e]
section
variable {VB : Nat} {n m : Nat} {rs : mz_RS} {ad : mz_T → Nat} {lv : Nat → Int32} {mk : Nat → Nat} {mm : Nat → Nat → Nat × Nat} {gi : Nat → Nat → Nat → Int32} {go : Nat → Nat → Option Nat} {gj : Nat → Nat → Int64} {h : mz_H}
theorem cs_typeOf_no (hR : mz_Rp VB n m rs ad lv mk mm gi go gj h) {c : Int32} (hc : c < 0 ∨ nI n ≤ c) : fn_X10_typeOf h (some (ad (2, 0, 0, 0))) c = some (none, h, 0, 0) := by
  by_cases c1 : c < 0
  · simp only [fn_X10_typeOf, if_pos c1, zr_e]
  · simp only [fn_X10_typeOf, if_neg c1, cg_2_1 hR, zo_s, if_pos (hc.resolve_left c1), zr_e]
theorem cs_typeOf (hR : mz_Rp VB n m rs ad lv mk mm gi go gj h) (hn : n ≤ 40) {j : Nat} (hj : j < n) : fn_X10_typeOf h (some (ad (2, 0, 0, 0))) (nI j) = some (some (ad (6, j, 0, 0)), h, 0, 0) := by
  have h31 : j < 2 ^ 31 := by omega
  simp only [fn_X10_typeOf, if_neg (nI_pos h31), cg_2_1 hR, zo_s, if_neg (nI_ge hj (by omega)), cg_2_0 hR, ca_3 hR, ix_nI (show j < 40 by omega) (by omega), if_true, cl_nI h31, if_pos hj, zr_e]
theorem rs_isClass_no (q sz : Nat) (hc2 : rs.1 2 = nI n) {c : Int32} (hc : c < 0 ∨ nI n ≤ c) : fn_X12_isClass (mz_RH q sz rs) (some q) c = some (0, mz_RH q sz rs, 0, 0) := by
  by_cases c1 : c < 0
  · simp only [fn_X12_isClass, if_pos c1, z_0, zc_t, zr_e]
  · have c2 := hc.resolve_left c1
    simp only [fn_X12_isClass, if_neg c1, rg_2, hc2, zo_s, if_pos c2, if_neg (Int32.not_lt.mpr c2), z_0, zc_t, zr_e]
theorem rs_isClass (q sz : Nat) (hc2 : rs.1 2 = nI n) (hn : n ≤ 40) {j : Nat} (hj : j < n) : fn_X12_isClass (mz_RH q sz rs) (some q) (nI j) = some (1, mz_RH q sz rs, 0, 0) := by
  have h31 : j < 2 ^ 31 := by omega
  simp only [fn_X12_isClass, if_neg (nI_pos h31), rg_2, hc2, zo_s, if_neg (nI_ge hj (by omega)), if_pos (nI_lt hj (by omega)), z_1, zc_t, zr_e]
theorem cs_thingOf_no (hR : mz_Rp VB n m rs ad lv mk mm gi go gj h) {c : Int32} (hc : c < 0 ∨ nI m ≤ c) : fn_X11_thingOf h (some (ad (1, 0, 0, 0))) c = some (none, h, 0, 0) := by
  by_cases c1 : c < 0
  · simp only [fn_X11_thingOf, if_pos c1, zr_e]
  · simp only [fn_X11_thingOf, if_neg c1, cg_1_4 hR, zo_s, if_pos (hc.resolve_left c1), zr_e]
theorem cs_thingOf (hR : mz_Rp VB n m rs ad lv mk mm gi go gj h) (hn : m ≤ 60) {j : Nat} (hj : j < m) : fn_X11_thingOf h (some (ad (1, 0, 0, 0))) (nI j) = some (some (ad (17, j, 0, 0)), h, 0, 0) := by
  have h31 : j < 2 ^ 31 := by omega
  simp only [fn_X11_thingOf, if_neg (nI_pos h31), cg_1_4 hR, zo_s, if_neg (nI_ge hj (by omega)), cg_1_3 hR, ca_16 hR, ix_nI (show j < 60 by omega) (by omega), if_true, cl_nI h31, if_pos hj, zr_e]
theorem rs_isObject_no (q sz : Nat) (hc2 : rs.1 32 = nI m) {c : Int32} (hc : c < 0 ∨ nI m ≤ c) : fn_X12_isObject (mz_RH q sz rs) (some q) c = some (0, mz_RH q sz rs, 0, 0) := by
  by_cases c1 : c < 0
  · simp only [fn_X12_isObject, if_pos c1, z_0, zc_t, zr_e]
  · have c2 := hc.resolve_left c1
    simp only [fn_X12_isObject, if_neg c1, rg_32, hc2, zo_s, if_pos c2, if_neg (Int32.not_lt.mpr c2), z_0, zc_t, zr_e]
theorem rs_isObject (q sz : Nat) (hc2 : rs.1 32 = nI m) (hn : m ≤ 60) {j : Nat} (hj : j < m) : fn_X12_isObject (mz_RH q sz rs) (some q) (nI j) = some (1, mz_RH q sz rs, 0, 0) := by
  have h31 : j < 2 ^ 31 := by omega
  simp only [fn_X12_isObject, if_neg (nI_pos h31), rg_32, hc2, zo_s, if_neg (nI_ge hj (by omega)), if_pos (nI_lt hj (by omega)), z_1, zc_t, zr_e]
theorem mz_sl_le {n m : Nat} {rs : mz_RS} (w : mz_wo n m rs) {o : Nat} (ho : o < m) : mz_sl rs o ≤ 16 ∧ rs.2.1 34 o = nI (mz_sl rs o) := by
  obtain ⟨-, k, hk, e⟩ := w.2.2.1 o ho
  unfold mz_sl
  rw [e, cl_nI (by omega)]
  exact ⟨hk, rfl⟩
theorem cs_slotOf_no (hR : mz_Rp VB n m rs ad lv mk mm gi go gj h) (w : mz_wo n m rs) {o s : Int32} (hc : (o < 0 ∨ nI m ≤ o) ∨ ∃ j, j < m ∧ o = nI j ∧ (s < 0 ∨ nI (mz_sl rs j) ≤ s)) : fn_X11_slotOf h (some (ad (1, 0, 0, 0))) o s = some (none, h, 0, 0) := by
  rcases hc with hc | ⟨j, hj, rfl, hs⟩
  · simp only [fn_X11_slotOf, ci_1 hR, zc_t, cs_thingOf_no hR hc, zl_0, if_true, zr_e]
  · have e : ¬ (some (ad (17, j, 0, 0)) : Option Nat) = none := fun q => by cases q
    simp only [fn_X11_slotOf, ci_1 hR, zc_t, cs_thingOf hR w.1 hj, zl_0, if_neg e, ci_17 hR hj, fn_X8_slotAt]
    by_cases c1 : s < 0
    · simp only [if_pos c1, zr_e, zl_0]
    · have hs2 : Int32.ofNat (mz_sl rs j) ≤ s := hs.resolve_left c1
      simp only [if_neg c1, cg_17_1 hR hj, zo_s, cl_18a hR hj, if_pos hs2, zr_e, zl_0]
theorem cs_slotOf (hR : mz_Rp VB n m rs ad lv mk mm gi go gj h) (w : mz_wo n m rs) {j s : Nat} (hj : j < m) (hs : s < mz_sl rs j) : fn_X11_slotOf h (some (ad (1, 0, 0, 0))) (nI j) (nI s) = some (some (ad (19, j, s, 0)), h, 0, 0) := by
  have e : ¬ (some (ad (17, j, 0, 0)) : Option Nat) = none := fun q => by cases q
  have h16 := (mz_sl_le w hj).1
  have h2 : ¬ Int32.ofNat (mz_sl rs j) ≤ nI s := nI_ge hs (by omega)
  simp only [fn_X11_slotOf, ci_1 hR, zc_t, cs_thingOf hR w.1 hj, zl_0, if_neg e, ci_17 hR hj, fn_X8_slotAt, if_neg (nI_pos (show s < 2 ^ 31 by omega)), cg_17_1 hR hj, zo_s, cl_18a hR hj, if_neg h2, ca_18 hR hj, ix_nI hs (show mz_sl rs j < 2 ^ 31 by omega), if_true, cl_nI (show s < 2 ^ 31 by omega), if_pos hs, zr_e]
theorem rs_isSlot_no (q sz : Nat) (w : mz_wo n m rs) {o s : Int32} (hc : (o < 0 ∨ nI m ≤ o) ∨ ∃ j, j < m ∧ o = nI j ∧ (s < 0 ∨ nI (mz_sl rs j) ≤ s)) : fn_X12_isSlot (mz_RH q sz rs) (some q) o s = some (0, mz_RH q sz rs, 0, 0) := by
  rcases hc with hc | ⟨j, hj, rfl, hs⟩
  · simp only [fn_X12_isSlot, mz_RH_is, zc_t, rs_isObject_no q sz w.2.1 hc, zl_0, if_true, z_0, zr_e]
  · have one : ¬ (1 : Int32) = 0 := by decide
    have hm := w.1
    simp only [fn_X12_isSlot, mz_RH_is, zc_t, rs_isObject q sz w.2.1 w.1 hj, zl_0, if_neg one]
    by_cases c1 : s < 0
    · simp only [if_pos c1, z_0, zc_t, zr_e]
    · have hs2 := hs.resolve_left c1
      simp only [if_neg c1, rr_34, zo_s, ra_34, ix_nI (show j < 60 by omega) (show 60 < 2 ^ 31 by omega), if_true, cl_nI (show j < 2 ^ 31 by omega), (mz_sl_le w hj).2, if_pos hs2, if_neg (Int32.not_lt.mpr hs2), z_0, zc_t, zr_e]
theorem rs_isSlot (q sz : Nat) (w : mz_wo n m rs) {j s : Nat} (hj : j < m) (hs : s < mz_sl rs j) : fn_X12_isSlot (mz_RH q sz rs) (some q) (nI j) (nI s) = some (1, mz_RH q sz rs, 0, 0) := by
  have one : ¬ (1 : Int32) = 0 := by decide
  have hm := w.1
  have h16 := (mz_sl_le w hj).1
  simp only [fn_X12_isSlot, mz_RH_is, zc_t, rs_isObject q sz w.2.1 w.1 hj, zl_0, if_neg one, if_neg (nI_pos (show s < 2 ^ 31 by omega)), rr_34, zo_s, ra_34, ix_nI (show j < 60 by omega) (show 60 < 2 ^ 31 by omega), if_true, cl_nI (show j < 2 ^ 31 by omega), (mz_sl_le w hj).2, if_neg (nI_ge hs (show mz_sl rs j < 2 ^ 31 by omega)), if_pos (nI_lt hs (show mz_sl rs j < 2 ^ 31 by omega)), z_1, zc_t, zr_e]
/-- an object's and a slot's numbers: none, or both -/
theorem mz_noS (w : mz_wo n m rs) (o s : Int32) : ((o < 0 ∨ nI m ≤ o) ∨ ∃ j, j < m ∧ o = nI j ∧ (s < 0 ∨ nI (mz_sl rs j) ≤ s)) ∨ ∃ j t, j < m ∧ t < mz_sl rs j ∧ o = nI j ∧ s = nI t := by
  have hm := w.1
  rcases mz_no o (show m < 2 ^ 31 by omega) with h | ⟨j, hj, rfl⟩
  · exact Or.inl (Or.inl h)
  · have h16 := (mz_sl_le w hj).1
    rcases mz_no s (show mz_sl rs j < 2 ^ 31 by omega) with h | ⟨t, ht, rfl⟩
    · exact Or.inl (Or.inr ⟨j, hj, rfl, h⟩)
    · exact Or.inr ⟨j, t, hj, ht, rfl, rfl⟩
end

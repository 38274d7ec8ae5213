/-! member: the call -/
section
variable {VB : Nat} {n m : Nat} {rs : mz_RS} {ad : mz_T → Nat} {lv : Nat → Int32} {mk : Nat → Nat} {mm : Nat → Nat → Nat × Nat} {gi : Nat → Nat → Nat → Int32} {go : Nat → Nat → Option Nat} {gj : Nat → Nat → Int64} {h : mz_H}
theorem rs_mtail (q sz : Nat) {c s g l b : Nat} (hc : c < 40) (hs : s < 3) (hg : g < 6) (hl : l ≤ 10) (hb : b ≤ 2) (eg : rs.2.1 3 c = nI g) (e7 : rs.2.1 7 c = nI b) (w d p : Int32) : (if nI s = 0 then mz_op (mz_fR (mz_RH q sz rs) (some q) 11 3) fun v8 => mz_op (mz_aI (mz_RH q sz rs) v8 0 (nI c)) fun v9 => if v9 = 2 then (if (w &&& 2) = 0 then mz_ret (-3) (mz_RH q sz rs) else fn_X12_member_b97 (mz_RH q sz rs) (some q) (nI c) (nI s) (nI l) d w p) else fn_X12_member_b97 (mz_RH q sz rs) (some q) (nI c) (nI s) (nI l) d w p else fn_X12_member_b97 (mz_RH q sz rs) (some q) (nI c) (nI s) (nI l) d w p) = some (-3, mz_RH q sz rs, 0, 0) ∧ ¬ (mz_may s g w ∧ mz_lk l b) ∨ (if nI s = 0 then mz_op (mz_fR (mz_RH q sz rs) (some q) 11 3) fun v8 => mz_op (mz_aI (mz_RH q sz rs) v8 0 (nI c)) fun v9 => if v9 = 2 then (if (w &&& 2) = 0 then mz_ret (-3) (mz_RH q sz rs) else fn_X12_member_b97 (mz_RH q sz rs) (some q) (nI c) (nI s) (nI l) d w p) else fn_X12_member_b97 (mz_RH q sz rs) (some q) (nI c) (nI s) (nI l) d w p else fn_X12_member_b97 (mz_RH q sz rs) (some q) (nI c) (nI s) (nI l) d w p) = fn_X12_member_b133 (mz_RH q sz rs) (some q) (nI c) (nI l) d w p ∧ mz_may s g w ∧ mz_lk l b := by
  have q0 : nI s = 0 ↔ s = 0 := nI_eq (b := 0) (by omega) (by omega)
  have q2 : nI s = 2 ↔ s = 2 := nI_eq (b := 2) (by omega) (by omega)
  have g2 : nI g = 2 ↔ g = 2 := nI_eq (b := 2) (by omega) (by omega)
  have g3 : nI g = 3 ↔ g = 3 := nI_eq (b := 3) (by omega) (by omega)
  have l8 : nI l ≤ 8 ↔ l ≤ 8 := nI_leI (b := 8) (by omega) (by omega)
  have T : fn_X12_member_b112 (mz_RH q sz rs) (some q) (nI c) (nI l) d w p = if l ≤ 8 then fn_X12_member_b133 (mz_RH q sz rs) (some q) (nI c) (nI l) d w p else if l - 9 < b then fn_X12_member_b133 (mz_RH q sz rs) (some q) (nI c) (nI l) d w p else some (-3, mz_RH q sz rs, 0, 0) := by
    by_cases h8 : l ≤ 8
    · rw [if_pos h8, fn_X12_member_b112, if_pos (l8.mpr h8)]
    · have e9 : nI l - 9 = nI (l - 9) := by
        rcases (show l = 9 ∨ l = 10 by omega) with rfl | rfl <;> decide
      rw [if_neg h8]
      by_cases hv : l - 9 < b
      · simp only [fn_X12_member_b112, l8, if_neg h8, if_pos hv, rr_7, ra_7, ix_nI (show c < 40 by omega) (show 40 < 2 ^ 31 by omega), cl_nI (show c < 2 ^ 31 by omega), e7, e9, if_neg (nI_ge hv (show b < 2 ^ 31 by omega)), zo_s, if_true]
      · simp only [fn_X12_member_b112, l8, if_neg h8, if_neg hv, rr_7, ra_7, ix_nI (show c < 40 by omega) (show 40 < 2 ^ 31 by omega), cl_nI (show c < 2 ^ 31 by omega), e7, e9, if_pos (nI_le (show b ≤ l - 9 by omega) (show l - 9 < 2 ^ 31 by omega)), zo_s, zc_t, zl_0, zr_e, z_0, z_1, if_true]
  by_cases w2 : (w &&& 2) = 0
  · simp only [rr_3, ra_3, ix_nI (show c < 40 by omega) (show 40 < 2 ^ 31 by omega), cl_nI (show c < 2 ^ 31 by omega), eg, q0, g2, if_pos w2, fn_X12_member_b97, q2, g3, T, zo_s, zc_t, zl_0, zr_e, z_0, z_1, if_true]
    unfold mz_may mz_lk
    repeat' split
    all_goals first | (refine Or.inr ⟨rfl, ⟨fun z => ?_, fun z => ?_⟩, ?_⟩ <;> omega) | (refine Or.inl ⟨rfl, fun z => ?_⟩; first | omega | exact z.1.1 ⟨by omega, by omega, w2⟩)
  · simp only [rr_3, ra_3, ix_nI (show c < 40 by omega) (show 40 < 2 ^ 31 by omega), cl_nI (show c < 2 ^ 31 by omega), eg, q0, g2, if_neg w2, fn_X12_member_b97, q2, g3, T, zo_s, zc_t, zl_0, zr_e, z_0, z_1, if_true]
    unfold mz_may mz_lk
    repeat' split
    all_goals first | (refine Or.inr ⟨rfl, ⟨fun z => w2 z.2.2, fun z => ?_⟩, ?_⟩ <;> omega) | (refine Or.inl ⟨rfl, fun z => ?_⟩; omega)
end
theorem k_member {VB o q l : Nat} {rs : mz_RS} {h : mz_H} (H : mz_In VB o (l + 1) rs h) (x1 x2 x3 x4 x5 x6 : Int32) : mz_Ok VB o q l rs (fun h => fn_X11_member h (some o) x1 x2 x3 x4 x5 x6) (fun h => fn_X12_member h (some q) x1 x2 x3 x4 x5 x6) h := by
  obtain ⟨n, m, ad, lv, mk, mm, gi, go, gj, hR, w⟩ := id H
  obtain ⟨wc, wm, wo, wt, wl, wq, wa, wv⟩ := id w
  obtain rfl : ad (1, 0, 0, 0) = o := wa
  have hn40 := wc.1
  have hm60 := wo.1
  rcases mz_no x1 (show n < 2 ^ 31 by omega) with hx | ⟨c, hc, rfl⟩
  · exact mz_Ok.same H (-1) (by simp only [fn_X11_member, cg_1_0 hR, ci_2 hR, cs_typeOf_no hR hx, zo_s, zc_t, zl_0, zr_e, z_0, z_1, if_true]) (by simp only [fn_X12_member, mz_RH_is, rs_isClass_no q h.2 wc.2.1 hx, zo_s, zc_t, zl_0, zr_e, z_0, z_1, if_true])
  have RC := fun sz => rs_isClass (rs := rs) q sz wc.2.1 wc.1 hc
  have T := cs_typeOf hR wc.1 hc
  have e3 : (3 ≤ x2) ↔ (2 < x2) := by
    rw [Int32.le_iff_toInt_le, Int32.lt_iff_toInt_lt]
    show (3 : Int) ≤ _ ↔ (2 : Int) < _
    omega
  have e31 : (31 ≤ x3) ↔ (30 < x3) := by
    rw [Int32.le_iff_toInt_le, Int32.lt_iff_toInt_lt]
    show (31 : Int) ≤ _ ↔ (30 : Int) < _
    omega
  by_cases c1 : x2 < 0
  · exact mz_Ok.same H (-2) (by simp only [fn_X11_member, cg_1_0 hR, ci_2 hR, T, if_neg smn, if_pos c1, zo_s, zc_t, zl_0, zr_e, z_0, z_1, if_true]) (by simp only [fn_X12_member, mz_RH_is, RC, if_neg one0, rs_within, if_pos c1, zo_s, zc_t, zl_0, zr_e, z_0, z_1, if_true])
  by_cases c2 : 2 < x2
  · exact mz_Ok.same H (-2) (by simp only [fn_X11_member, cg_1_0 hR, ci_2 hR, T, if_neg smn, if_neg c1, if_pos (e3.mpr c2), zo_s, zc_t, zl_0, zr_e, z_0, z_1, if_true]) (by simp only [fn_X12_member, mz_RH_is, RC, if_neg one0, rs_within, if_neg c1, if_pos c2, zo_s, zc_t, zl_0, zr_e, z_0, z_1, if_true])
  have c2' : ¬ 3 ≤ x2 := fun z => c2 (e3.mp z)
  by_cases c3 : x3 < 0
  · exact mz_Ok.same H (-2) (by simp only [fn_X11_member, cg_1_0 hR, ci_2 hR, T, if_neg smn, if_neg c1, if_neg c2', cs_isName, if_pos c3, zo_s, zc_t, zl_0, zr_e, z_0, z_1, if_true]) (by simp only [fn_X12_member, mz_RH_is, RC, if_neg one0, rs_within, if_neg c1, if_neg c2, if_pos c3, zo_s, zc_t, zl_0, zr_e, z_0, z_1, if_true])
  by_cases c4 : 30 < x3
  · exact mz_Ok.same H (-2) (by simp only [fn_X11_member, cg_1_0 hR, ci_2 hR, T, if_neg smn, if_neg c1, if_neg c2', cs_isName, if_neg c3, if_pos (e31.mpr c4), zo_s, zc_t, zl_0, zr_e, z_0, z_1, if_true]) (by simp only [fn_X12_member, mz_RH_is, RC, if_neg one0, rs_within, if_neg c1, if_neg c2, if_neg c3, if_pos c4, zo_s, zc_t, zl_0, zr_e, z_0, z_1, if_true])
  have c4' : ¬ 31 ≤ x3 := fun z => c4 (e31.mp z)
  by_cases c5 : x4 < 0
  · exact mz_Ok.same H (-2) (by simp only [fn_X11_member, cg_1_0 hR, ci_2 hR, T, if_neg smn, if_neg c1, if_neg c2', cs_isName, if_neg c3, if_neg c4', if_neg one0, if_pos c5, zo_s, zc_t, zl_0, zr_e, z_0, z_1, if_true]) (by simp only [fn_X12_member, mz_RH_is, RC, if_neg one0, rs_within, if_neg c1, if_neg c2, if_neg c3, if_neg c4, if_pos c5, zo_s, zc_t, zl_0, zr_e, z_0, z_1, if_true])
  by_cases c6 : x4 ≤ 10
  case neg => exact mz_Ok.same H (-2) (by simp only [fn_X11_member, cg_1_0 hR, ci_2 hR, T, if_neg smn, if_neg c1, if_neg c2', cs_isName, if_neg c3, if_neg c4', if_neg one0, if_neg c5, if_neg c6, zo_s, zc_t, zl_0, zr_e, z_0, z_1, if_true]) (by simp only [fn_X12_member, mz_RH_is, RC, if_neg one0, rs_within, if_neg c1, if_neg c2, if_neg c3, if_neg c4, if_neg c5, if_pos (Int32.not_le.mp c6), zo_s, zc_t, zl_0, zr_e, z_0, z_1, if_true])
  have c6' := Int32.not_lt.mpr c6
  by_cases c7 : x5 < 0
  · exact mz_Ok.same H (-2) (by simp only [fn_X11_member, cg_1_0 hR, ci_2 hR, T, if_neg smn, if_neg c1, if_neg c2', cs_isName, if_neg c3, if_neg c4', if_neg one0, if_neg c5, if_pos c6, if_pos c7, zo_s, zc_t, zl_0, zr_e, z_0, z_1, if_true]) (by simp only [fn_X12_member, mz_RH_is, RC, if_neg one0, rs_within, if_neg c1, if_neg c2, if_neg c3, if_neg c4, if_neg c5, if_neg c6', if_pos c7, zo_s, zc_t, zl_0, zr_e, z_0, z_1, if_true])
  by_cases c8 : 2 < x5
  · exact mz_Ok.same H (-2) (by simp only [fn_X11_member, cg_1_0 hR, ci_2 hR, T, if_neg smn, if_neg c1, if_neg c2', cs_isName, if_neg c3, if_neg c4', if_neg one0, if_neg c5, if_pos c6, if_neg c7, if_pos c8, zo_s, zc_t, zl_0, zr_e, z_0, z_1, if_true]) (by simp only [fn_X12_member, mz_RH_is, RC, if_neg one0, rs_within, if_neg c1, if_neg c2, if_neg c3, if_neg c4, if_neg c5, if_neg c6', if_neg c7, if_pos c8, zo_s, zc_t, zl_0, zr_e, z_0, z_1, if_true])
  by_cases c9 : x6 < 0
  · exact mz_Ok.same H (-2) (by simp only [fn_X11_member, cg_1_0 hR, ci_2 hR, T, if_neg smn, if_neg c1, if_neg c2', cs_isName, if_neg c3, if_neg c4', if_neg one0, if_neg c5, if_pos c6, if_neg c7, if_neg c8, if_pos c9, zo_s, zc_t, zl_0, zr_e, z_0, z_1, if_true]) (by simp only [fn_X12_member, mz_RH_is, RC, if_neg one0, rs_within, if_neg c1, if_neg c2, if_neg c3, if_neg c4, if_neg c5, if_neg c6', if_neg c7, if_neg c8, if_pos c9, zo_s, zc_t, zl_0, zr_e, z_0, z_1, if_true])
  by_cases c10 : x6 ≤ 7
  case neg => exact mz_Ok.same H (-2) (by simp only [fn_X11_member, cg_1_0 hR, ci_2 hR, T, if_neg smn, if_neg c1, if_neg c2', cs_isName, if_neg c3, if_neg c4', if_neg one0, if_neg c5, if_pos c6, if_neg c7, if_neg c8, if_neg c9, if_neg c10, zo_s, zc_t, zl_0, zr_e, z_0, z_1, if_true]) (by simp only [fn_X12_member, mz_RH_is, RC, if_neg one0, rs_within, if_neg c1, if_neg c2, if_neg c3, if_neg c4, if_neg c5, if_neg c6', if_neg c7, if_neg c8, if_neg c9, if_pos (Int32.not_le.mp c10), zo_s, zc_t, zl_0, zr_e, z_0, z_1, if_true])
  have c10' := Int32.not_lt.mpr c10
  obtain ⟨s, hs, rfl⟩ : ∃ i : Nat, i ≤ 2 ∧ x2 = nI i := nI_of2 (M := 2) rfl c1 (Int32.not_lt.mp c2)
  obtain ⟨k, hk, rfl⟩ : ∃ i : Nat, i ≤ 30 ∧ x3 = nI i := nI_of2 (M := 30) rfl c3 (Int32.not_lt.mp c4)
  obtain ⟨ln, hln, rfl⟩ : ∃ i : Nat, i ≤ 10 ∧ x4 = nI i := nI_of2 (M := 10) rfl c5 c6
  obtain ⟨d, hd, rfl⟩ : ∃ i : Nat, i ≤ 2 ∧ x5 = nI i := nI_of2 (M := 2) rfl c7 (Int32.not_lt.mp c8)
  obtain ⟨ma, hma, rfl⟩ : ∃ i : Nat, i ≤ 7 ∧ x6 = nI i := nI_of2 (M := 7) rfl c9 c10
  obtain ⟨g, hg, eg⟩ := wc.2.2.1 c hc
  obtain ⟨b, hb, e7, hbd⟩ := wc.2.2.2.2.2.2.1 c hc
  obtain ⟨hmk, e9⟩ := wm.1 c hc
  have G : mz_fI h (some (ad (6, c, 0, 0))) 8 0 = some (nI g) := by rw [cg_6_0 hR hc, eg]
  obtain ⟨r1, M1, p1⟩ := cs_mayHave G (show s < 3 by omega) hg (nI ma)
  have LM := cs_laneMeant hR hc hln hb e7
  obtain ⟨r2, M2, p2⟩ := cs_hasMember hR wm hc (show s < 3 by omega) (show k < 31 by omega) (mk c) 0 1001 (by omega) (by omega)
  have M2' : fn_X9_hasMember_b2 1001 h (some (ad (6, c, 0, 0))) (nI s) (nI k) 0 = some (r2, h, 0, 0) := M2
  have RT := fun sz => rs_mtail (rs := rs) q sz (show c < 40 by omega) (show s < 3 by omega) hg hln hb eg e7 (nI ma) (nI d) (nI ((3 * c + s) * 31 + k))
  have hmp := wm.2.2.2.1 c hc s k (by omega) (by omega)
  by_cases A1 : mz_may s g (nI ma)
  case neg =>
    have r10 : r1 = 0 := by
      rcases p1.one with ⟨-, z, -⟩ | ⟨z, -⟩
      · exact absurd z A1
      · exact z
    refine mz_Ok.same H (-3) ?_ ?_
    · simp only [fn_X11_member, cg_1_0 hR, ci_2 hR, T, if_neg smn, if_neg c1, if_neg c2', cs_isName, if_neg c3, if_neg c4', if_neg one0, if_neg c5, if_pos c6, if_neg c7, if_neg c8, if_neg c9, if_pos c10, ci_6 hR hc, LM, M1, if_pos r10, zo_s, zc_t, zl_0, zr_e, z_0, z_1, if_true]
    · rcases RT h.2 with ⟨z, -⟩ | ⟨-, z, -⟩
      · simp only [fn_X12_member, mz_RH_is, RC, if_neg one0, rs_within, if_neg c1, if_neg c2, if_neg c3, if_neg c4, if_neg c5, if_neg c6', if_neg c7, if_neg c8, if_neg c9, if_neg c10', l3, l31, zo_s, zc_t, zl_0]
        exact z
      · exact absurd z A1
  have r10 : ¬ r1 = 0 := by
    rcases p1.one with ⟨z, -, -⟩ | ⟨-, z⟩
    · exact z
    · exact absurd A1 z
  by_cases A2 : mz_lk ln b
  case neg =>
    have l8 : ¬ ln ≤ 8 := fun z => A2 (Or.inl z)
    have l9 : ¬ ln - 9 < b := fun z => A2 (Or.inr z)
    refine mz_Ok.same H (-3) ?_ ?_
    · simp only [fn_X11_member, cg_1_0 hR, ci_2 hR, T, if_neg smn, if_neg c1, if_neg c2', cs_isName, if_neg c3, if_neg c4', if_neg one0, if_neg c5, if_pos c6, if_neg c7, if_neg c8, if_neg c9, if_pos c10, ci_6 hR hc, LM, if_neg l8, if_neg l9, M1, if_neg r10, zo_s, zc_t, zl_0, zr_e, z_0, z_1, if_true]
    · rcases RT h.2 with ⟨z, -⟩ | ⟨-, -, z⟩
      · simp only [fn_X12_member, mz_RH_is, RC, if_neg one0, rs_within, if_neg c1, if_neg c2, if_neg c3, if_neg c4, if_neg c5, if_neg c6', if_neg c7, if_neg c8, if_neg c9, if_neg c10', l3, l31, zo_s, zc_t, zl_0]
        exact z
      · exact absurd z A2
  have LM2 : fn_X9_laneMeant h (some (ad (6, c, 0, 0))) (nI ln) = some (if ln ≤ 8 then nI ln else rs.2.1 8 (2 * c + (ln - 9)), h, 0, 0) := by
    rw [LM]
    by_cases h8 : ln ≤ 8
    · rw [if_pos h8, if_pos h8]
    · rw [if_neg h8, if_neg h8, if_pos (A2.resolve_left h8)]
  have n9 : ¬ (if ln ≤ 8 then nI ln else rs.2.1 8 (2 * c + (ln - 9))) = -9 := by
    by_cases h8 : ln ≤ 8
    · rw [if_pos h8]
      exact nI_ne9 (by omega)
    · rw [if_neg h8]
      obtain ⟨v, hv, ev⟩ := hbd (ln - 9) (A2.resolve_left h8)
      rw [ev]
      exact nI_ne9 (by omega)
  have RT' : ∀ sz, fn_X12_member (mz_RH q sz rs) (some q) (nI c) (nI s) (nI k) (nI ln) (nI d) (nI ma) = fn_X12_member_b133 (mz_RH q sz rs) (some q) (nI c) (nI ln) (nI d) (nI ma) (nI ((3 * c + s) * 31 + k)) := fun sz => by
    rcases RT sz with ⟨-, z⟩ | ⟨z, -⟩
    · exact absurd ⟨A1, A2⟩ z
    · simp only [fn_X12_member, mz_RH_is, RC, if_neg one0, rs_within, if_neg c1, if_neg c2, if_neg c3, if_neg c4, if_neg c5, if_neg c6', if_neg c7, if_neg c8, if_neg c9, if_neg c10', l3, l31, zo_s, zc_t, zl_0]
      exact z
  by_cases A3 : ∃ i, i < mk c ∧ mm c i = (s, k)
  · have r20 : ¬ r2 = 0 := by
      rcases p2.one with ⟨z, -, -⟩ | ⟨-, z⟩
      · exact z
      · obtain ⟨i, h1, h2⟩ := A3
        exact absurd ⟨i, Nat.zero_le i, h1, h2⟩ z
    have e10 : ¬ rs.2.1 10 ((3 * c + s) * 31 + k) = 0 := by
      rcases hmp with ⟨z, -⟩ | ⟨-, z⟩
      · rw [z]; decide
      · exact absurd A3 z
    refine mz_Ok.same H (-3) ?_ ?_
    · simp only [fn_X11_member, cg_1_0 hR, ci_2 hR, T, if_neg smn, if_neg c1, if_neg c2', cs_isName, if_neg c3, if_neg c4', if_neg one0, if_neg c5, if_pos c6, if_neg c7, if_neg c8, if_neg c9, if_pos c10, ci_6 hR hc, LM2, M1, if_neg r10, if_neg n9, fn_X9_hasMember, M2', if_neg r20, zo_s, zc_t, zl_0, zr_e, z_0, z_1, if_true]
    · rw [RT' h.2]
      simp only [fn_X12_member_b133, rr_10, ra_10, ix_nI (show (3 * c + s) * 31 + k < 3720 by omega) (show 3720 < 2 ^ 31 by omega), cl_nI (show (3 * c + s) * 31 + k < 2 ^ 31 by omega), if_neg e10, zo_s, zc_t, zl_0, zr_e, z_0, z_1, if_true]
  have r20 : r2 = 0 := by
    rcases p2.one with ⟨-, ⟨i, -, h1, h2⟩, -⟩ | ⟨z, -⟩
    · exact absurd ⟨i, h1, h2⟩ A3
    · exact z
  have e10 : rs.2.1 10 ((3 * c + s) * 31 + k) = 0 := by
    rcases hmp with ⟨-, z⟩ | ⟨z, -⟩
    · exact absurd z A3
    · exact z
  by_cases A4 : mk c = 12
  · have f12 : ¬ nI (mk c) < 12 := by rw [A4]; decide
    have f12' : nI (mk c) = 12 := by rw [A4]; rfl
    refine mz_Ok.same H (-4) ?_ ?_
    · simp only [fn_X11_member, cg_1_0 hR, ci_2 hR, T, if_neg smn, if_neg c1, if_neg c2', cs_isName, if_neg c3, if_neg c4', if_neg one0, if_neg c5, if_pos c6, if_neg c7, if_neg c8, if_neg c9, if_pos c10, ci_6 hR hc, LM2, M1, if_neg r10, if_neg n9, fn_X9_hasMember, M2', if_pos r20, cg_6_8 hR hc, if_neg f12, zo_s, zc_t, zl_0, zr_e, z_0, z_1, if_true]
    · rw [RT' h.2]
      simp only [fn_X12_member_b133, rr_10, ra_10, rr_9, ra_9, ix_nI (show (3 * c + s) * 31 + k < 3720 by omega) (show 3720 < 2 ^ 31 by omega), cl_nI (show (3 * c + s) * 31 + k < 2 ^ 31 by omega), ix_nI (show c < 40 by omega) (show 40 < 2 ^ 31 by omega), cl_nI (show c < 2 ^ 31 by omega), if_pos e10, e9, if_pos f12', zo_s, zc_t, zl_0, zr_e, z_0, z_1, if_true]
  have hK : mk c < 12 := by omega
  have f12 : nI (mk c) < 12 := nI_lt (b := 12) hK (by omega)
  have f12' : ¬ nI (mk c) = 12 := fun z => A4 ((nI_eq (b := 12) (by omega) (by omega)).mp z)
  obtain ⟨h1, k1, R1, s1⟩ := cw_member hR wm hc (show s < 3 by omega) (show k < 31 by omega) hln hK A3 (nI d) (nI ma) (by omega)
  have z11 : (1 : Int32) &&& 1 = 1 := by decide
  have en : nI (mk c) + 1 = nI (mk c + 1) := nI_add _ 1
  have en2 : nI (mk c + 1) - 1 = nI (mk c) := by rw [← en]; exact Int32.add_sub_cancel _ _
  have x9 : (mz_sa (mz_sa (mz_sa (mz_sa rs 10 ((3 * c + s) * 31 + k) 1) 11 ((3 * c + s) * 31 + k) (nI ln)) 12 ((3 * c + s) * 31 + k) (nI d)) 13 ((3 * c + s) * 31 + k) (nI ma)).2.1 9 c = nI (mk c) := e9
  have x9' : (mz_sa (mz_sa (mz_sa (mz_sa (mz_sa rs 10 ((3 * c + s) * 31 + k) 1) 11 ((3 * c + s) * 31 + k) (nI ln)) 12 ((3 * c + s) * 31 + k) (nI d)) 13 ((3 * c + s) * 31 + k) (nI ma)) 9 c (nI (mk c + 1))).2.1 9 c = nI (mk c + 1) := pk_us
  refine ⟨nI (mk c), h1, 1, 5, mz_km rs c ((3 * c + s) * 31 + k) (mk c) (nI ln) (nI d) (nI ma), ?_, ?_, ⟨n, m, _, lv, _, _, gi, go, gj, R1, wc_member wc hc (by omega) _ _ _, wm_member wm hc (by omega) (by omega) hln hd hma hK e7 hb A2 A3, wo, wt, wl, wq, rfl, by omega⟩, by omega, Nat.le_refl _, by omega, by omega⟩
  · simp only [fn_X11_member, cg_1_0 hR, ci_2 hR, T, if_neg smn, if_neg c1, if_neg c2', cs_isName, if_neg c3, if_neg c4', if_neg one0, if_neg c5, if_pos c6, if_neg c7, if_neg c8, if_neg c9, if_pos c10, ci_6 hR hc, LM2, M1, if_neg r10, if_neg n9, fn_X9_hasMember, M2', if_pos r20, cg_6_8 hR hc, if_pos f12, cg_6_7 hR hc, zo_s, zc_t, zl_0]
    exact k1
  · refine (RT' h1.2).trans ?_
    simp only [fn_X12_member_b133, rr_10, ra_10, rr_9, ra_9, rr_11, rw_11, rr_12, rw_12, rr_13, rw_13, rw_10, rw_9, ix_nI (show (3 * c + s) * 31 + k < 3720 by omega) (show 3720 < 2 ^ 31 by omega), cl_nI (show (3 * c + s) * 31 + k < 2 ^ 31 by omega), ix_nI (show c < 40 by omega) (show 40 < 2 ^ 31 by omega), cl_nI (show c < 2 ^ 31 by omega), if_pos e10, e9, if_neg f12', z11, x9, en, x9', en2, zo_s, zc_t, zl_0, zr_e, z_0, z_1, if_true]
    rfl

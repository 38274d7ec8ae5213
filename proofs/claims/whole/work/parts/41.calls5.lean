/-! cell, wide, told, drop, board, slot -/
theorem k_cell {VB o q l : Nat} {rs : mz_RS} {h : mz_H} (H : mz_In VB o (l + 1) rs h) (x : Int32) : mz_Ok VB o q l rs (fun h => fn_X11_cell h (some o) x) (fun h => fn_X12_cell h (some q) x) h := by
  refine ok_flt H (fun _ => rfl) (fun _ => rfl) (fun h1 H1 => ?_)
  clear H
  revert H1
  generalize mz_si rs 0 0 = rs
  clear h
  intro H
  generalize h1 = h at H ⊢
  obtain ⟨n, m, ad, lv, mk, mm, gi, go, gj, hR, w⟩ := id H
  obtain ⟨wc, wm, wo, wt, wl, wq, wa, wv⟩ := id w
  obtain rfl : ad (1, 0, 0, 0) = o := wa
  have hn40 := wc.1
  have hm60 := wo.1
  have z2 : (0 : Nat) < 2 := by decide
  obtain ⟨⟨c, hc, e46, hgj⟩, -, h44⟩ := wq
  have g3 : mz_fI h (some (ad (25, 0, 0, 0))) 0 3 = some (rs.1 44) := by rw [cg_25_3 hR z2, if_pos rfl]
  have g1 : mz_fI h (some (ad (25, 0, 0, 0))) 0 1 = some (nI c) := by rw [cg_25_1 hR z2, if_pos rfl, e46]
  by_cases c0 : rs.1 44 = 0
  · exact mz_Ok.same H 0 (by simp only [cg_1_5 hR, g3, if_pos c0, zo_s, zc_t, zl_0, zr_e, z_0, z_1, if_true]) (by simp only [rg_44, if_pos c0, zo_s, zc_t, zl_0, zr_e, z_0, z_1, if_true])
  rcases mz_no x (show c < 2 ^ 31 by omega) with hx | ⟨j, hj, rfl⟩
  · by_cases c1 : x < 0
    · refine ok_failJ2 H 3 ?_ (fun sz => ?_)
      · simp only [cg_1_5 hR, g3, if_neg c0, if_pos c1, fn_X11_cell_b32, ci_1 hR, zo_s, zc_t]
      · simp only [rg_44, if_neg c0, if_pos c1, fn_X12_cell_b26, mz_RH_is, zo_s, zc_t]
    · have c2 := Int32.not_lt.mpr (hx.resolve_left c1)
      refine ok_failJ2 H 3 ?_ (fun sz => ?_)
      · simp only [cg_1_5 hR, g3, if_neg c0, if_neg c1, g1, if_neg c2, fn_X11_cell_b32, ci_1 hR, zo_s, zc_t]
      · simp only [rg_44, if_neg c0, if_neg c1, rg_46, e46, if_neg c2, fn_X12_cell_b26, mz_RH_is, zo_s, zc_t]
  · refine mz_Ok.same H (rs.2.2 47 j) ?_ ?_
    · simp only [cg_1_5 hR, g3, if_neg c0, if_neg (nI_pos (show j < 2 ^ 31 by omega)), g1, if_pos (nI_lt hj (show c < 2 ^ 31 by omega)), cg_25_0 hR z2, ca_26 hR z2, ix_nI (show j < 60 by omega) (show 60 < 2 ^ 31 by omega), cl_nI (show j < 2 ^ 31 by omega), hgj j hj, zo_s, zc_t, zl_0, zr_e, z_0, z_1, if_true]
    · simp only [rg_44, if_neg c0, if_neg (nI_pos (show j < 2 ^ 31 by omega)), rg_46, e46, if_pos (nI_lt hj (show c < 2 ^ 31 by omega)), rr_47, ra_47, ix_nI (show j < 60 by omega) (show 60 < 2 ^ 31 by omega), cl_nI (show j < 2 ^ 31 by omega), zo_s, zc_t, zl_0, zr_e, z_0, z_1, if_true]
theorem k_wide {VB o q l : Nat} {rs : mz_RS} {h : mz_H} (H : mz_In VB o (l + 1) rs h) (x y i z : Int32) : mz_Ok VB o q l rs (fun h => fn_X11_wide h (some o) x y i z) (fun h => fn_X12_wide h (some q) x y i z) h := by
  refine ok_flt H (fun _ => rfl) (fun _ => rfl) (fun h1 H1 => ?_)
  clear H
  revert H1
  generalize mz_si rs 0 0 = rs
  clear h
  intro H
  generalize h1 = h at H ⊢
  obtain ⟨n, m, ad, lv, mk, mm, gi, go, gj, hR, w⟩ := id H
  obtain ⟨wc, wm, wo, wt, wl, wq, wa, wv⟩ := id w
  obtain rfl : ad (1, 0, 0, 0) = o := wa
  have hn40 := wc.1
  have hm60 := wo.1
  rcases mz_noS wo x y with hx | ⟨a, s, ha, hs, rfl, rfl⟩
  · exact mz_Ok.same H 0 (by simp only [ci_1 hR, cs_slotOf_no hR wo hx, zo_s, zc_t, zl_0, zr_e, z_0, z_1, if_true]) (by simp only [mz_RH_is, rs_isSlot_no q h.2 wo hx, zo_s, zc_t, zl_0, zr_e, z_0, z_1, if_true])
  have h16 := (mz_sl_le wo ha).1
  have h30 := (rl_le wo ha hs).1
  have e40 := (rl_le wo ha hs).2
  by_cases c1 : z < 0
  · exact mz_Ok.same H 0 (by simp only [ci_1 hR, cs_slotOf hR wo ha hs, if_neg smn, cs_isLane, if_pos c1, zo_s, zc_t, zl_0, zr_e, z_0, z_1, if_true]) (by simp only [mz_RH_is, rs_isSlot q h.2 wo ha hs, if_neg one0, rs_within, if_pos c1, zo_s, zc_t, zl_0, zr_e, z_0, z_1, if_true])
  by_cases c2 : 7 < z
  · exact mz_Ok.same H 0 (by simp only [ci_1 hR, cs_slotOf hR wo ha hs, if_neg smn, cs_isLane, if_neg c1, if_pos c2, zo_s, zc_t, zl_0, zr_e, z_0, z_1, if_true]) (by simp only [mz_RH_is, rs_isSlot q h.2 wo ha hs, if_neg one0, rs_within, if_neg c1, if_pos c2, zo_s, zc_t, zl_0, zr_e, z_0, z_1, if_true])
  obtain ⟨b, hb, rfl⟩ : ∃ i : Nat, i < 8 ∧ z = nI i := by
    rcases pk_ix z (show 8 < 2 ^ 31 by omega) with q | q | q
    · exact absurd q c1
    · exact absurd (Int32.lt_of_lt_of_le (by decide) q) c2
    · exact q
  rcases (wo.2.2.2.1 a s ha hs).2.2.2.1 with h1 | h1
  · refine ok_failJ2 H 1 ?_ (fun sz => ?_)
    · simp only [ci_1 hR, cs_slotOf hR wo ha hs, if_neg smn, cs_isLane, if_neg c1, if_neg c2, ci_19 hR ha hs, cs_nothing hR wo ha hs, h1, if_neg one0, zc_t, zl_0, if_true]
    · simp only [mz_RH_is, rs_isSlot q sz wo ha hs, if_neg one0, rs_within, if_neg c1, if_neg c2, l16, rr_39, ra_39, ix_nI (show 16 * a + s < 960 by omega) (show 960 < 2 ^ 31 by omega), cl_nI (show 16 * a + s < 2 ^ 31 by omega), h1, zo_s, zc_t, zl_0, if_true]
  by_cases h2 : rs.2.1 37 (16 * a + s) = 2
  · refine ok_failJ2 H 7 ?_ (fun sz => ?_)
    · simp only [ci_1 hR, cs_slotOf hR wo ha hs, if_neg smn, cs_isLane, if_neg c1, if_neg c2, ci_19 hR ha hs, cs_nothing hR wo ha hs, h1, if_neg one0, cg_19_2 hR ha hs, if_pos h2, fn_X11_wide_b61, zo_s, zc_t, zl_0, if_true]
    · simp only [mz_RH_is, rs_isSlot q sz wo ha hs, if_neg one0, rs_within, if_neg c1, if_neg c2, l16, rr_39, ra_39, rr_37, ra_37, ix_nI (show 16 * a + s < 960 by omega) (show 960 < 2 ^ 31 by omega), cl_nI (show 16 * a + s < 2 ^ 31 by omega), h1, if_pos h2, fn_X12_wide_b74, zo_s, zc_t, zl_0, if_true]
  by_cases h3 : rs.2.1 36 (16 * a + s) = 8
  · refine ok_failJ2 H 7 ?_ (fun sz => ?_)
    · simp only [ci_1 hR, cs_slotOf hR wo ha hs, if_neg smn, cs_isLane, if_neg c1, if_neg c2, ci_19 hR ha hs, cs_nothing hR wo ha hs, h1, if_neg one0, cg_19_2 hR ha hs, if_neg h2, cg_19_1 hR ha hs, if_pos h3, fn_X11_wide_b61, zo_s, zc_t, zl_0, if_true]
    · simp only [mz_RH_is, rs_isSlot q sz wo ha hs, if_neg one0, rs_within, if_neg c1, if_neg c2, l16, rr_39, ra_39, rr_37, ra_37, rr_36, ra_36, ix_nI (show 16 * a + s < 960 by omega) (show 960 < 2 ^ 31 by omega), cl_nI (show 16 * a + s < 2 ^ 31 by omega), h1, if_neg h2, if_pos h3, fn_X12_wide_b74, zo_s, zc_t, zl_0, if_true]
  obtain ⟨ln, hln, eln⟩ := (wo.2.2.2.1 a s ha hs).2.1
  have hl8 : ln < 8 := by
    rcases (show ln < 8 ∨ ln = 8 by omega) with q | rfl
    · exact q
    · exact absurd eln h3
  rw [eln] at h3
  rcases mz_no i (show mz_rl rs (16 * a + s) < 2 ^ 31 by omega) with hi | ⟨i0, hi0, rfl⟩
  · have P : mz_PC rs a s i 0 3 (0, 0, 0, 0) 0 0 := Or.inr (Or.inl ⟨h1, hi, rfl⟩)
    refine ok_failJ2 H 3 ?_ (fun sz => ?_)
    · simp only [ci_1 hR, cs_slotOf hR wo ha hs, if_neg smn, cs_isLane, if_neg c1, if_neg c2, ci_19 hR ha hs, cs_nothing hR wo ha hs, h1, if_neg one0, cg_19_2 hR ha hs, if_neg h2, cg_19_1 hR ha hs, eln, if_neg h3, cs_faultAt hR wo ha hs P, if_neg i31, zo_s, zc_t, zl_0, if_true]
    · by_cases c3 : i < 0
      · simp only [mz_RH_is, rs_isSlot q sz wo ha hs, if_neg one0, rs_within, if_neg c1, if_neg c2, l16, rr_39, ra_39, rr_37, ra_37, rr_36, ra_36, ix_nI (show 16 * a + s < 960 by omega) (show 960 < 2 ^ 31 by omega), cl_nI (show 16 * a + s < 2 ^ 31 by omega), h1, if_neg h2, eln, if_neg h3, if_pos c3, fn_X12_wide_b96, zo_s, zc_t, zl_0, if_true]
      · simp only [mz_RH_is, rs_isSlot q sz wo ha hs, if_neg one0, rs_within, if_neg c1, if_neg c2, l16, rr_39, ra_39, rr_37, ra_37, rr_36, ra_36, rr_40, ra_40, ix_nI (show 16 * a + s < 960 by omega) (show 960 < 2 ^ 31 by omega), cl_nI (show 16 * a + s < 2 ^ 31 by omega), h1, if_neg h2, eln, if_neg h3, if_neg c3, e40, if_neg (Int32.not_lt.mpr (hi.resolve_left c3)), fn_X12_wide_b96, zo_s, zc_t, zl_0, if_true]
  · have P : mz_PC rs a s (nI i0) 0 0 (21, a, s, 0) i0 (900 * (16 * a + s) + i0) := Or.inr (Or.inr (Or.inl ⟨h1, h2, rfl, hi0, rfl, rfl, rfl⟩))
    have cx := nI_pos (show i0 < 2 ^ 31 by omega)
    have cy := nI_lt hi0 (show mz_rl rs (16 * a + s) < 2 ^ 31 by omega)
    rcases fp_wide h h (rs.2.2 43 (900 * (16 * a + s) + i0)) hl8 hb with ⟨w1, -⟩ | ⟨w1, -, r, w2, -⟩
    · have w3 : ∀ sz, fn_X12_isWidened (mz_RH q sz rs) (nI ln) (nI b) = some (0, mz_RH q sz rs, 0, 0) := fun sz => by
        rcases fp_wide h (mz_RH q sz rs) (rs.2.2 43 (900 * (16 * a + s) + i0)) hl8 hb with ⟨-, u⟩ | ⟨u, -⟩
        · exact u
        · rw [w1] at u
          cases u
      refine ok_failJ2 H 7 ?_ (fun sz => ?_)
      · simp only [ci_1 hR, cs_slotOf hR wo ha hs, if_neg smn, cs_isLane, if_neg c1, if_neg c2, ci_19 hR ha hs, cs_nothing hR wo ha hs, h1, if_neg one0, cg_19_2 hR ha hs, if_neg h2, cg_19_1 hR ha hs, eln, if_neg h3, cs_faultAt hR wo ha hs P, w1, zo_s, zc_t, zl_0, if_true]
      · simp only [mz_RH_is, rs_isSlot q sz wo ha hs, if_neg one0, rs_within, if_neg c1, if_neg c2, l16, rr_39, ra_39, rr_37, ra_37, rr_36, ra_36, rr_40, ra_40, ix_nI (show 16 * a + s < 960 by omega) (show 960 < 2 ^ 31 by omega), cl_nI (show 16 * a + s < 2 ^ 31 by omega), h1, if_neg h2, eln, if_neg h3, if_neg cx, e40, if_pos cy, w3, zo_s, zc_t, zl_0, if_true]
    · obtain ⟨w3, w4⟩ : fn_X12_isWidened (mz_RH q h.2 rs) (nI ln) (nI b) = some (1, mz_RH q h.2 rs, 0, 0) ∧ fn_X12_widened (mz_RH q h.2 rs) (rs.2.2 43 (900 * (16 * a + s) + i0)) (nI ln) (nI b) = some (r, mz_RH q h.2 rs, 0, 0) := by
        rcases fp_wide h (mz_RH q h.2 rs) (rs.2.2 43 (900 * (16 * a + s) + i0)) hl8 hb with ⟨u, -⟩ | ⟨-, u, r2, u2, u3⟩
        · rw [w1] at u
          cases u
        · rw [w2] at u2
          cases u2
          exact ⟨u, u3⟩
      refine mz_Ok.same H r ?_ ?_
      · simp only [ci_1 hR, cs_slotOf hR wo ha hs, if_neg smn, cs_isLane, if_neg c1, if_neg c2, ci_19 hR ha hs, cs_nothing hR wo ha hs, h1, if_neg one0, cg_19_2 hR ha hs, if_neg h2, cg_19_1 hR ha hs, eln, if_neg h3, cs_faultAt hR wo ha hs P, w1, cs_cellAt hR wo ha hs P, w2, zo_s, zc_t, zl_0, zr_e, z_0, z_1, if_true]
      · simp only [mz_RH_is, rs_isSlot q h.2 wo ha hs, if_neg one0, rs_within, if_neg c1, if_neg c2, l16, rr_39, ra_39, rr_37, ra_37, rr_36, ra_36, rr_40, ra_40, rr_43, ra_43, ix_nI (show 16 * a + s < 960 by omega) (show 960 < 2 ^ 31 by omega), cl_nI (show 16 * a + s < 2 ^ 31 by omega), h1, if_neg h2, eln, if_neg h3, if_neg cx, e40, if_pos cy, w3, w4, l900, ix_nI (show 900 * (16 * a + s) + i0 < 864000 by omega) (show 864000 < 2 ^ 31 by omega), cl_nI (show 900 * (16 * a + s) + i0 < 2 ^ 31 by omega), zo_s, zc_t, zl_0, zr_e, z_0, z_1, if_true]
theorem i04 : ¬ (nI 0 : Int32) = nI 1 := by decide
section
variable {VB : Nat} {n m : Nat} {rs : mz_RS} {ad : mz_T → Nat} {lv : Nat → Int32} {mk : Nat → Nat} {mm : Nat → Nat → Nat × Nat} {gi : Nat → Nat → Nat → Int32} {go : Nat → Nat → Option Nat} {gj : Nat → Nat → Int64} {h : mz_H}
theorem up_up (h : mz_H) (a : Nat) (e e' : mz_E) : mz_up (mz_up h a e) a e' = mz_up h a e' := by
  refine Prod.ext (funext fun x => ?_) rfl
  show (if x = a then some e' else if x = a then some e else h.1 x) = if x = a then some e' else h.1 x
  by_cases hx : x = a
  · rw [if_pos hx, if_pos hx]
  · rw [if_neg hx, if_neg hx, if_neg hx]
theorem up_at (h : mz_H) (a : Nat) (e : mz_E) : (mz_up h a e).1 a = some e := if_pos rfl
theorem aw_has {o s : Nat} (v : Int32) : mz_aw rs (mz_sa rs 39 (16 * o + s) v) (16 * o + s) := by
  refine ⟨rfl, fun p hp => ⟨rfl, rfl, rfl, rfl, ?_, rfl⟩, fun p i hp hi => ⟨rfl, rfl⟩, fun p i hp hi => rfl⟩
  exact pk_un hp
theorem cw_empty (hR : mz_Rp VB n m rs ad lv mk mm gi go gj h) (w : mz_wo n m rs) {o s : Nat} (ho : o < m) (hs : s < mz_sl rs o) : ∃ h', fn_X6_empty h (some (ad (19, o, s, 0))) = some ((), h', 0, 0) ∧ mz_Rp VB n m (mz_sa rs 39 (16 * o + s) 0) ad lv mk mm gi go gj h' ∧ h'.2 = h.2 := by
  have h16 := (mz_sl_le w ho).1
  have A := aw_has (rs := rs) (o := o) (s := s) 0
  have z39 : (mz_sa rs 39 (16 * o + s) 0).2.1 39 (16 * o + s) = 0 := pk_us
  have n01 : ¬ (mz_sa rs 39 (16 * o + s) 0).2.1 39 (16 * o + s) = 1 := by rw [z39]; decide
  refine ⟨mz_up h (ad (19, o, s, 0)) (.inr (5, [.int (rs.2.1 35 (16 * o + s)), .int (rs.2.1 36 (16 * o + s)), .int (rs.2.1 37 (16 * o + s)), .int (rs.2.1 38 (16 * o + s)), va_rf none, va_rf none])), ?_, hR.up 19 o s 0 (Or.inl ?_) (cb_19 hR ho hs) ?_, rfl⟩
  · have e1 := pF_of (k := 4) (v := va_rf none) (cc_19 hR ho hs) (lt_rfl rfl)
    simp only [fn_X6_empty, e1, zo_s]
    have e2 := pF_of (k := 5) (v := va_rf none) (up_at h (ad (19, o, s, 0)) (.inr (5, [.int (rs.2.1 35 (16 * o + s)), .int (rs.2.1 36 (16 * o + s)), .int (rs.2.1 37 (16 * o + s)), .int (rs.2.1 38 (16 * o + s)), va_rf none, va_rf (if rs.2.1 39 (16 * o + s) = 1 ∧ rs.2.1 37 (16 * o + s) = 2 then some (ad (22, o, s, 0)) else none)]))) (lt_rfl rfl)
    refine (congrArg (fun x => mz_op x fun h => mz_ret () h) e2).trans ?_
    rw [zo_s, up_up]
    rfl
  · show mz_f19 n m (mz_sa rs 39 (16 * o + s) 0) ad lv mk mm gi go gj o s 0 = _
    rw [mz_f19, if_pos ⟨ho, hs, rfl⟩, if_neg (fun z => n01 z.1), if_neg (fun z => n01 z.1)]
    rfl
  · apply mz_hs <;> first | (exact fun _ _ _ _ => Or.inl rfl) | skip
    · intro i j k hne
      by_cases hij : i = o ∧ j = s
      · obtain ⟨rfl, rfl⟩ := hij
        have hk : ¬ k = 0 := fun e => hne ⟨rfl, rfl, rfl, e⟩
        refine Or.inr (if_neg fun z => hk z.2.2)
      · exact Or.inl (keepS w (show s < 16 by omega) A i j k hij).1
    · intro i j k _
      by_cases hij : i = o ∧ j = s
      · obtain ⟨rfl, rfl⟩ := hij
        refine Or.inr (if_neg fun z => n01 z.2.2.2.1)
      · exact Or.inl (keepS w (show s < 16 by omega) A i j k hij).2.1
    · intro i j k _
      by_cases hij : i = o ∧ j = s
      · obtain ⟨rfl, rfl⟩ := hij
        refine Or.inr (if_neg fun z => n01 z.2.2.2.1)
      · exact Or.inl (keepS w (show s < 16 by omega) A i j k hij).2.2.1
    · intro i j k _
      by_cases hij : i = o ∧ j = s
      · obtain ⟨rfl, rfl⟩ := hij
        refine Or.inr (if_neg fun z => n01 z.2.2.2.1)
      · exact Or.inl (keepS w (show s < 16 by omega) A i j k hij).2.2.2.1
    · intro i j k _
      by_cases hij : i = o ∧ j = s
      · obtain ⟨rfl, rfl⟩ := hij
        refine Or.inr (if_neg fun z => n01 z.2.2.1)
      · exact Or.inl (keepS w (show s < 16 by omega) A i j k hij).2.2.2.2.1
    · intro i j k _
      by_cases hij : i = o ∧ j = s
      · obtain ⟨rfl, rfl⟩ := hij
        refine Or.inr (if_neg fun z => n01 z.2.2.1)
      · exact Or.inl (keepS w (show s < 16 by omega) A i j k hij).2.2.2.2.2
/-- a slot without a row -/
theorem wo_empty (w : mz_wo n m rs) {o s : Nat} (ho : o < m) (hs : s < mz_sl rs o) (h0 : ¬ rs.2.1 37 (16 * o + s) = 0) : mz_wo n m (mz_sa rs 39 (16 * o + s) 0) := by
  obtain ⟨a1, a2, a3, a4, a5, a6, a7⟩ := w
  have up : ∀ p, (mz_sa rs 39 (16 * o + s) 0).2.1 39 p = 1 → rs.2.1 39 p = 1 := fun p e => by
    by_cases hp : p = 16 * o + s
    · subst hp
      rw [show (mz_sa rs 39 (16 * o + s) 0).2.1 39 (16 * o + s) = 0 from pk_us] at e
      exact absurd e (by decide)
    · rw [show (mz_sa rs 39 (16 * o + s) 0).2.1 39 p = rs.2.1 39 p from pk_un hp] at e
      exact e
  refine ⟨a1, a2, a3, fun o' s' b1 b2 => ?_, fun o' s' i b1 b2 b3 b4 b5 b6 => a5 o' s' i b1 b2 b3 b4 (up _ b5) b6, a6, fun o' s' i b1 b2 b3 b4 b5 => a7 o' s' i b1 b2 b3 (up _ b4) b5⟩
  obtain ⟨c1, c2, c3, c4, c5, c6⟩ := a4 o' s' b1 b2
  by_cases hp : 16 * o' + s' = 16 * o + s
  · refine ⟨c1, c2, c3, Or.inl ?_, c5, fun e => absurd ?_ h0⟩
    · rw [hp]
      exact pk_us
    · rw [← hp]
      exact e
  · refine ⟨c1, c2, c3, ?_, c5, ?_⟩
    · rw [show (mz_sa rs 39 (16 * o + s) 0).2.1 39 (16 * o' + s') = rs.2.1 39 (16 * o' + s') from pk_un hp]
      exact c4
    · rw [show (mz_sa rs 39 (16 * o + s) 0).2.1 39 (16 * o' + s') = rs.2.1 39 (16 * o' + s') from pk_un hp]
      exact c6
end
theorem k_drop {VB o q l : Nat} {rs : mz_RS} {h : mz_H} (H : mz_In VB o (l + 1) rs h) (x y : Int32) : mz_Ok VB o q l rs (fun h => fn_X11_drop h (some o) x y) (fun h => fn_X12_drop h (some q) x y) h := by
  obtain ⟨n, m, ad, lv, mk, mm, gi, go, gj, hR, w⟩ := id H
  obtain ⟨wc, wm, wo, wt, wl, wq, wa, wv⟩ := id w
  obtain rfl : ad (1, 0, 0, 0) = o := wa
  have hn40 := wc.1
  have hm60 := wo.1
  rcases mz_noS wo x y with hx | ⟨a, s, ha, hs, rfl, rfl⟩
  · exact mz_Ok.same H (-1) (by simp only [fn_X11_drop, ci_1 hR, cs_slotOf_no hR wo hx, zo_s, zc_t, zl_0, zr_e, z_0, z_1, if_true]) (by simp only [fn_X12_drop, mz_RH_is, rs_isSlot_no q h.2 wo hx, zo_s, zc_t, zl_0, zr_e, z_0, z_1, if_true])
  have h16 := (mz_sl_le wo ha).1
  by_cases c0 : rs.2.1 37 (16 * a + s) = 0
  · exact mz_Ok.same H (-3) (by simp only [fn_X11_drop, ci_1 hR, cs_slotOf hR wo ha hs, if_neg smn, cg_19_2 hR ha hs, if_pos c0, zo_s, zc_t, zl_0, zr_e, z_0, z_1, if_true]) (by simp only [fn_X12_drop, mz_RH_is, rs_isSlot q h.2 wo ha hs, if_neg one0, l16, rr_37, ra_37, ix_nI (show 16 * a + s < 960 by omega) (show 960 < 2 ^ 31 by omega), cl_nI (show 16 * a + s < 2 ^ 31 by omega), if_pos c0, zo_s, zc_t, zl_0, zr_e, z_0, z_1, if_true])
  obtain ⟨h1, e1, R1, s1⟩ := cw_empty hR wo ha hs
  have z01 : (0 : Int32) &&& 1 = 0 := by decide
  have hN : mz_In VB (ad (1, 0, 0, 0)) l (mz_sa rs 39 (16 * a + s) 0) h1 := ⟨n, m, ad, lv, mk, mm, gi, go, gj, R1, wc, wm, wo_empty wo ha hs c0, wt, wl, wq, rfl, by omega⟩
  rcases (wo.2.2.2.1 a s ha hs).2.2.2.1 with h9 | h9
  · refine ⟨0, h1, 0, 0, mz_sa rs 39 (16 * a + s) 0, ?_, ?_, hN, Nat.le_of_eq s1.symm, Nat.le_refl _, by omega, by omega⟩
    · simp only [fn_X11_drop, ci_1 hR, cs_slotOf hR wo ha hs, if_neg smn, cg_19_2 hR ha hs, if_neg c0, ci_19 hR ha hs, cs_nothing hR wo ha hs, h9, if_neg one0, fn_X11_drop_b35, e1, zo_s, zc_t, zl_0, zr_e, z_0, z_1, if_true]
    · simp only [fn_X12_drop, mz_RH_is, rs_isSlot q h1.2 wo ha hs, if_neg one0, l16, rr_37, ra_37, rr_39, ra_39, rw_39, z01, ix_nI (show 16 * a + s < 960 by omega) (show 960 < 2 ^ 31 by omega), cl_nI (show 16 * a + s < 2 ^ 31 by omega), if_neg c0, h9, zo_s, zc_t, zl_0, zr_e, z_0, z_1, if_true]
  · refine ⟨1, h1, 0, 0, mz_sa rs 39 (16 * a + s) 0, ?_, ?_, hN, Nat.le_of_eq s1.symm, Nat.le_refl _, by omega, by omega⟩
    · simp only [fn_X11_drop, ci_1 hR, cs_slotOf hR wo ha hs, if_neg smn, cg_19_2 hR ha hs, if_neg c0, ci_19 hR ha hs, cs_nothing hR wo ha hs, h9, if_neg one0, fn_X11_drop_b35, e1, zo_s, zc_t, zl_0, zr_e, z_0, z_1, if_true]
    · simp only [fn_X12_drop, mz_RH_is, rs_isSlot q h1.2 wo ha hs, if_neg one0, l16, rr_37, ra_37, rr_39, ra_39, rw_39, z01, ix_nI (show 16 * a + s < 960 by omega) (show 960 < 2 ^ 31 by omega), cl_nI (show 16 * a + s < 2 ^ 31 by omega), if_neg c0, h9, zo_s, zc_t, zl_0, zr_e, z_0, z_1, if_true]
/-! told: how many classes have started -/
def st_count (rs : mz_RS) : Nat → Int32
  | 0 => 0
  | c + 1 => if rs.2.1 14 c = 0 then st_count rs c else st_count rs c + 1
section
variable {VB : Nat} {n m : Nat} {rs : mz_RS} {ad : mz_T → Nat} {lv : Nat → Int32} {mk : Nat → Nat} {mm : Nat → Nat → Nat × Nat} {gi : Nat → Nat → Nat → Int32} {go : Nat → Nat → Option Nat} {gj : Nat → Nat → Int64} {h : mz_H}
theorem cs_started (hR : mz_Rp VB n m rs ad lv mk mm gi go gj h) (hn : n ≤ 40) : ∀ (d c f : Nat), c + d = n → d < f → fn_X10_startedCount_b4 f h (some (ad (2, 0, 0, 0))) (st_count rs c) (nI c) = some (st_count rs n, h, 0, 0) := by
  intro d
  induction d with
  | zero =>
    intro c f hc hf
    obtain ⟨g, rfl⟩ : ∃ g, f = g + 1 := ⟨f - 1, by omega⟩
    have hc' : c = n := by omega
    subst hc'
    simp only [fn_X10_startedCount_b4, cg_2_1 hR, if_pos (Int32.le_refl _), zo_s, zc_t, zl_0, zr_e, z_0, z_1, if_true]
  | succ d ih =>
    intro c f hc hf
    obtain ⟨g, rfl⟩ : ∃ g, f = g + 1 := ⟨f - 1, by omega⟩
    have hcn : c < n := by omega
    have I := ih (c + 1) g (by omega) (by omega)
    rw [show nI (c + 1) = nI c + 1 from (nI_add c 1).symm] at I
    by_cases h0 : rs.2.1 14 c = 0
    · rw [st_count, if_pos h0] at I
      simp only [fn_X10_startedCount_b4, cg_2_1 hR, if_neg (nI_ge hcn (show n < 2 ^ 31 by omega)), cg_2_0 hR, ca_3 hR, ix_nI (show c < 40 by omega) (show 40 < 2 ^ 31 by omega), cl_nI (show c < 2 ^ 31 by omega), if_pos hcn, cg_6_10 hR hcn, if_pos h0, fn_X10_startedCount_b27, I, zo_s, if_true]
    · rw [st_count, if_neg h0] at I
      simp only [fn_X10_startedCount_b4, cg_2_1 hR, if_neg (nI_ge hcn (show n < 2 ^ 31 by omega)), cg_2_0 hR, ca_3 hR, ix_nI (show c < 40 by omega) (show 40 < 2 ^ 31 by omega), cl_nI (show c < 2 ^ 31 by omega), if_pos hcn, cg_6_10 hR hcn, if_neg h0, fn_X10_startedCount_b27, I, zo_s, if_true]
theorem rs_told (q sz : Nat) (hn : n ≤ 40) (h2 : rs.1 2 = nI n) (x : Int32) : ∀ (d c f : Nat), c + d = n → d < f → fn_X12_told_b4 f (mz_RH q sz rs) (some q) x (st_count rs c) (nI c) = some (if x = 0 then nI n else if x = 1 then rs.1 32 else if x = 2 then rs.1 30 else if x = 3 then st_count rs n else if x = 4 then rs.1 1 else if x = 5 then rs.1 46 else -2, mz_RH q sz rs, 0, 0) := by
  intro d
  induction d with
  | zero =>
    intro c f hc hf
    obtain ⟨g, rfl⟩ : ∃ g, f = g + 1 := ⟨f - 1, by omega⟩
    have hc' : c = n := by omega
    subst hc'
    simp only [fn_X12_told_b4, rg_2, h2, if_pos (Int32.le_refl _), rg_32, rg_30, rg_1, rg_46, zo_s, zc_t, zl_0, zr_e, z_0, z_1, if_true]
    repeat' split
    all_goals rfl
  | succ d ih =>
    intro c f hc hf
    obtain ⟨g, rfl⟩ : ∃ g, f = g + 1 := ⟨f - 1, by omega⟩
    have hcn : c < n := by omega
    have I := ih (c + 1) g (by omega) (by omega)
    rw [show nI (c + 1) = nI c + 1 from (nI_add c 1).symm] at I
    by_cases h0 : rs.2.1 14 c = 0
    · rw [st_count, if_pos h0] at I
      simp only [fn_X12_told_b4, rg_2, h2, if_neg (nI_ge hcn (show n < 2 ^ 31 by omega)), rr_14, ra_14, ix_nI (show c < 40 by omega) (show 40 < 2 ^ 31 by omega), cl_nI (show c < 2 ^ 31 by omega), if_pos h0, fn_X12_told_b27, Int32.add_zero, I, zo_s, if_true]
    · rw [st_count, if_neg h0] at I
      simp only [fn_X12_told_b4, rg_2, h2, if_neg (nI_ge hcn (show n < 2 ^ 31 by omega)), rr_14, ra_14, ix_nI (show c < 40 by omega) (show 40 < 2 ^ 31 by omega), cl_nI (show c < 2 ^ 31 by omega), if_neg h0, fn_X12_told_b27, I, zo_s, if_true]
end
theorem k_told {VB o q l : Nat} {rs : mz_RS} {h : mz_H} (H : mz_In VB o (l + 1) rs h) (x : Int32) : mz_Ok VB o q l rs (fun h => fn_X11_told h (some o) x) (fun h => fn_X12_told h (some q) x) h := by
  obtain ⟨n, m, ad, lv, mk, mm, gi, go, gj, hR, w⟩ := id H
  obtain ⟨wc, wm, wo, wt, wl, wq, wa, wv⟩ := id w
  obtain rfl : ad (1, 0, 0, 0) = o := wa
  have hn40 := wc.1
  have hm60 := wo.1
  have z2 : (0 : Nat) < 2 := by decide
  have S : fn_X10_startedCount h (some (ad (2, 0, 0, 0))) = some (st_count rs n, h, 0, 0) := cs_started hR wc.1 n 0 1001 (by omega) (by omega)
  refine mz_Ok.same H _ ?_ (rs_told (rs := rs) q h.2 wc.1 wc.2.1 x n 0 1001 (by omega) (by omega))
  simp only [fn_X11_told, cg_1_0 hR, cg_2_1 hR, cg_1_4 hR, cg_1_1 hR, cg_12_2 hR z2, ci_2 hR, S, cg_1_9 hR, cg_1_5 hR, cg_25_1 hR z2, wo.2.1, zo_s, zc_t, zl_0, zr_e, z_0, z_1, if_true]
  repeat' split
  all_goals rfl

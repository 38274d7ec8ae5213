/-! set, size, as, wide, drop, variable, board, stand, told -/
theorem k_set {VB o q l : Nat} {rs : mz_RS} {h : mz_H} (H : mz_In VB o (l + 1) rs h) (x y i j : Int32) (v : Int64) : mz_Ok VB o q l rs (fun h => fn_X11_set h (some o) x y i j v) (fun h => fn_X12_set h (some q) x y i j v) h := by
  refine ok_flt H (fun _ => rfl) (fun _ => rfl) (fun h1 H1 => ?_)
  clear H
  revert H1
  generalize mz_si rs 0 0 = rs
  clear h
  intro H
  generalize h1 = h at H ⊢
  obtain ⟨n, m, ad, lv, mk, mm, gi, go, gj, hR, w⟩ := id H
  obtain ⟨wc, wm, wo, wt, wl, wq, wa, wv⟩ := id w
  obtain rfl : ad (1, 0, 0, 0) = o := wa
  have hn40 := wc.1
  have hm60 := wo.1
  rcases mz_noS wo x y with hx | ⟨a, s, ha, hs, rfl, rfl⟩
  · exact mz_Ok.same H (-1) (by simp only [ci_1 hR, cs_slotOf_no hR wo hx, zo_s, zc_t, zl_0, zr_e, z_0, z_1, if_true]) (by simp only [mz_RH_is, rs_isSlot_no q h.2 wo hx, zo_s, zc_t, zl_0, zr_e, z_0, z_1, if_true])
  have h16 := (mz_sl_le wo ha).1
  by_cases c8 : rs.2.1 36 (16 * a + s) = 8
  · exact mz_Ok.same H (-3) (by simp only [ci_1 hR, cs_slotOf hR wo ha hs, if_neg smn, cg_19_1 hR ha hs, if_pos c8, zo_s, zc_t, zl_0, zr_e, z_0, z_1, if_true]) (by simp only [mz_RH_is, rs_isSlot q h.2 wo ha hs, if_neg one0, l16, rr_36, ra_36, ix_nI (show 16 * a + s < 960 by omega) (show 960 < 2 ^ 31 by omega), cl_nI (show 16 * a + s < 2 ^ 31 by omega), if_pos c8, zo_s, zc_t, zl_0, zr_e, z_0, z_1, if_true])
  obtain ⟨ln, hln, eln⟩ := (wo.2.2.2.1 a s ha hs).2.1
  have hl8 : ln < 8 := by
    rcases (show ln < 8 ∨ ln = 8 by omega) with q | rfl
    · exact q
    · exact absurd eln c8
  obtain ⟨r, b1, -⟩ := fp_become2 h h v hl8
  have b2 : ∀ sz, fn_X12_comes (mz_RH q sz rs) (nI ln) v = some (r, mz_RH q sz rs, 0, 0) := fun sz => by
    obtain ⟨r3, d1, d2⟩ := fp_become2 h (mz_RH q sz rs) v hl8
    rw [b1] at d1
    cases d1
    exact d2
  refine mz_Ok.cong ?_ (fun sz => ?_) (ok_put hR w ha hs i j r (fun e => absurd e c8))
  · simp only [ci_1 hR, cs_slotOf hR wo ha hs, if_neg smn, cg_19_1 hR ha hs, if_neg c8, eln, b1, zo_s, zc_t, zl_0]
    have c8' : ¬ nI ln = 8 := by rw [← eln]; exact c8
    simp only [if_neg c8', zl_0, b1]
  · have c8' : ¬ nI ln = 8 := by rw [← eln]; exact c8
    obtain ⟨F, t, k, x2, P⟩ := mz_PC.ex wo ha hs i j
    simp only [mz_RH_is, rs_isSlot q sz wo ha hs, if_neg one0, l16, rr_36, ra_36, ix_nI (show 16 * a + s < 960 by omega) (show 960 < 2 ^ 31 by omega), cl_nI (show 16 * a + s < 2 ^ 31 by omega), eln, if_neg c8', rs_placeOf q sz wo ha hs P, b2, zo_s, zc_t, zl_0, if_true]
theorem k_size {VB o q l : Nat} {rs : mz_RS} {h : mz_H} (H : mz_In VB o (l + 1) rs h) (x y i : Int32) : mz_Ok VB o q l rs (fun h => fn_X11_size h (some o) x y i) (fun h => fn_X12_size h (some q) x y i) h := by
  refine ok_flt H (fun _ => rfl) (fun _ => rfl) (fun h1 H1 => ?_)
  clear H
  revert H1
  generalize mz_si rs 0 0 = rs
  clear h
  intro H
  generalize h1 = h at H ⊢
  obtain ⟨n, m, ad, lv, mk, mm, gi, go, gj, hR, w⟩ := id H
  obtain ⟨wc, wm, wo, wt, wl, wq, wa, wv⟩ := id w
  obtain rfl : ad (1, 0, 0, 0) = o := wa
  have hn40 := wc.1
  have hm60 := wo.1
  rcases mz_noS wo x y with hx | ⟨a, s, ha, hs, rfl, rfl⟩
  · exact mz_Ok.same H (-1) (by simp only [ci_1 hR, cs_slotOf_no hR wo hx, zo_s, zc_t, zl_0, zr_e, z_0, z_1, if_true]) (by simp only [mz_RH_is, rs_isSlot_no q h.2 wo hx, zo_s, zc_t, zl_0, zr_e, z_0, z_1, if_true])
  have h16 := (mz_sl_le wo ha).1
  have h30 := (rl_le wo ha hs).1
  have e40 := (rl_le wo ha hs).2
  rcases (wo.2.2.2.1 a s ha hs).2.2.2.1 with h1 | h1
  · refine ok_fail H 1 ?_ (fun sz => ?_)
    · simp only [ci_1 hR, cs_slotOf hR wo ha hs, if_neg smn, ci_19 hR ha hs, cs_nothing hR wo ha hs, h1, if_neg one0, zc_t, zl_0, if_true]
    · simp only [mz_RH_is, rs_isSlot q sz wo ha hs, if_neg one0, l16, rr_39, ra_39, ix_nI (show 16 * a + s < 960 by omega) (show 960 < 2 ^ 31 by omega), cl_nI (show 16 * a + s < 2 ^ 31 by omega), h1, zo_s, zc_t, zl_0, if_true]
  by_cases c9 : i = -9
  · refine mz_Ok.same H (nI (mz_rl rs (16 * a + s))) ?_ ?_
    · simp only [ci_1 hR, cs_slotOf hR wo ha hs, if_neg smn, ci_19 hR ha hs, cs_nothing hR wo ha hs, h1, if_neg one0, if_pos c9, cs_length hR wo ha hs h1, zo_s, zc_t, zl_0, zr_e, z_0, z_1, if_true]
    · simp only [mz_RH_is, rs_isSlot q h.2 wo ha hs, if_neg one0, l16, rr_39, ra_39, rr_40, ra_40, ix_nI (show 16 * a + s < 960 by omega) (show 960 < 2 ^ 31 by omega), cl_nI (show 16 * a + s < 2 ^ 31 by omega), h1, if_pos c9, e40, zo_s, zc_t, zl_0, zr_e, z_0, z_1, if_true]
  by_cases h2 : rs.2.1 37 (16 * a + s) = 2
  case neg =>
    have h2' := fun z => h2 ((dep2 wo ha hs).mp z)
    refine ok_fail H 2 ?_ (fun sz => ?_)
    · simp only [ci_1 hR, cs_slotOf hR wo ha hs, if_neg smn, ci_19 hR ha hs, cs_nothing hR wo ha hs, h1, if_neg one0, if_neg c9, cg_19_2 hR ha hs, if_neg h2', zo_s, zc_t, zl_0, if_true]
    · simp only [mz_RH_is, rs_isSlot q sz wo ha hs, if_neg one0, l16, rr_39, ra_39, rr_37, ra_37, ix_nI (show 16 * a + s < 960 by omega) (show 960 < 2 ^ 31 by omega), cl_nI (show 16 * a + s < 2 ^ 31 by omega), h1, if_neg c9, if_neg h2', zo_s, zc_t, zl_0, if_true]
  have h2' := (dep2 wo ha hs).mpr h2
  rcases mz_no i (show mz_rl rs (16 * a + s) < 2 ^ 31 by omega) with hi | ⟨i0, hi0, rfl⟩
  · refine ok_fail H 3 ?_ (fun sz => ?_)
    · by_cases c1 : i < 0
      · simp only [ci_1 hR, cs_slotOf hR wo ha hs, if_neg smn, ci_19 hR ha hs, cs_nothing hR wo ha hs, h1, if_neg one0, if_neg c9, cg_19_2 hR ha hs, if_pos h2', if_pos c1, fn_X11_size_b74, zo_s, zc_t, zl_0, if_true]
      · simp only [ci_1 hR, cs_slotOf hR wo ha hs, if_neg smn, ci_19 hR ha hs, cs_nothing hR wo ha hs, h1, if_neg one0, if_neg c9, cg_19_2 hR ha hs, if_pos h2', if_neg c1, cs_length hR wo ha hs h1, if_neg (Int32.not_lt.mpr (hi.resolve_left c1)), fn_X11_size_b74, zo_s, zc_t, zl_0, if_true]
    · by_cases c1 : i < 0
      · simp only [mz_RH_is, rs_isSlot q sz wo ha hs, if_neg one0, l16, rr_39, ra_39, rr_37, ra_37, ix_nI (show 16 * a + s < 960 by omega) (show 960 < 2 ^ 31 by omega), cl_nI (show 16 * a + s < 2 ^ 31 by omega), h1, if_neg c9, if_pos h2', if_pos c1, fn_X12_size_b86, zo_s, zc_t, zl_0, if_true]
      · simp only [mz_RH_is, rs_isSlot q sz wo ha hs, if_neg one0, l16, rr_39, ra_39, rr_37, ra_37, rr_40, ra_40, ix_nI (show 16 * a + s < 960 by omega) (show 960 < 2 ^ 31 by omega), cl_nI (show 16 * a + s < 2 ^ 31 by omega), h1, if_neg c9, if_pos h2', if_neg c1, e40, if_neg (Int32.not_lt.mpr (hi.resolve_left c1)), fn_X12_size_b86, zo_s, zc_t, zl_0, if_true]
  · have hl := nI_lt hi0 (show mz_rl rs (16 * a + s) < 2 ^ 31 by omega)
    rcases (wo.2.2.2.2.1 a s i0 ha hs (by omega) h2 h1 hi0).1 with h4 | h4
    · refine ok_fail H 1 ?_ (fun sz => ?_)
      · have h4' : ¬ rs.2.1 41 (30 * (16 * a + s) + i0) = 1 := by rw [h4]; decide
        simp only [ci_1 hR, cs_slotOf hR wo ha hs, if_neg smn, ci_19 hR ha hs, cs_nothing hR wo ha hs, h1, if_neg one0, if_neg c9, cg_19_2 hR ha hs, if_pos h2', if_neg (nI_pos (show i0 < 2 ^ 31 by omega)), cs_length hR wo ha hs h1, if_pos hl, cs_rowAt2 hR wo ha hs h1 h2 hi0, if_neg h4', zo_s, zc_t, zl_0, if_true]
      · simp only [mz_RH_is, rs_isSlot q sz wo ha hs, if_neg one0, l16, rr_39, ra_39, rr_37, ra_37, rr_40, ra_40, rr_41, ra_41, ix_nI (show 16 * a + s < 960 by omega) (show 960 < 2 ^ 31 by omega), cl_nI (show 16 * a + s < 2 ^ 31 by omega), h1, if_neg c9, if_pos h2', if_neg (nI_pos (show i0 < 2 ^ 31 by omega)), e40, if_pos hl, l30, ix_nI (show 30 * (16 * a + s) + i0 < 28800 by omega) (show 28800 < 2 ^ 31 by omega), cl_nI (show 30 * (16 * a + s) + i0 < 2 ^ 31 by omega), h4, zo_s, zc_t, zl_0, if_true]
    · obtain ⟨hil, e42⟩ := il_le wo ha hs h1 h2 hi0 h4
      refine mz_Ok.same H (nI (mz_il rs (30 * (16 * a + s) + i0))) ?_ ?_
      · have el : Int32.ofNat (mz_il rs (30 * (16 * a + s) + i0)) = nI (mz_il rs (30 * (16 * a + s) + i0)) := rfl
        simp only [ci_1 hR, cs_slotOf hR wo ha hs, if_neg smn, ci_19 hR ha hs, cs_nothing hR wo ha hs, h1, if_neg one0, if_neg c9, cg_19_2 hR ha hs, if_pos h2', if_neg (nI_pos (show i0 < 2 ^ 31 by omega)), cs_length hR wo ha hs h1, if_pos hl, cs_rowAt2 hR wo ha hs h1 h2 hi0, if_pos h4, cg_23_0 hR ha hs h1 h2 hi0 h4, cl_24a hR ha hs h1 h2 hi0 h4, el, zo_s, zc_t, zl_0, zr_e, z_0, z_1, if_true]
      · simp only [mz_RH_is, rs_isSlot q h.2 wo ha hs, if_neg one0, l16, rr_39, ra_39, rr_37, ra_37, rr_40, ra_40, rr_41, ra_41, rr_42, ra_42, ix_nI (show 16 * a + s < 960 by omega) (show 960 < 2 ^ 31 by omega), cl_nI (show 16 * a + s < 2 ^ 31 by omega), h1, if_neg c9, if_pos h2', if_neg (nI_pos (show i0 < 2 ^ 31 by omega)), e40, if_pos hl, l30, ix_nI (show 30 * (16 * a + s) + i0 < 28800 by omega) (show 28800 < 2 ^ 31 by omega), cl_nI (show 30 * (16 * a + s) + i0 < 2 ^ 31 by omega), h4, e42, zo_s, zc_t, zl_0, zr_e, z_0, z_1, if_true]
theorem k_as {VB o q l : Nat} {rs : mz_RS} {h : mz_H} (H : mz_In VB o (l + 1) rs h) (x y i z : Int32) : mz_Ok VB o q l rs (fun h => fn_X11_as h (some o) x y i z) (fun h => fn_X12_as h (some q) x y i z) h := by
  refine ok_flt H (fun _ => rfl) (fun _ => rfl) (fun h1 H1 => ?_)
  clear H
  revert H1
  generalize mz_si rs 0 0 = rs
  clear h
  intro H
  generalize h1 = h at H ⊢
  obtain ⟨n, m, ad, lv, mk, mm, gi, go, gj, hR, w⟩ := id H
  obtain ⟨wc, wm, wo, wt, wl, wq, wa, wv⟩ := id w
  obtain rfl : ad (1, 0, 0, 0) = o := wa
  have hn40 := wc.1
  have hm60 := wo.1
  rcases mz_noS wo x y with hx | ⟨a, s, ha, hs, rfl, rfl⟩
  · exact mz_Ok.same H 0 (by simp only [ci_1 hR, cs_slotOf_no hR wo hx, zo_s, zc_t, zl_0, zr_e, z_0, z_1, if_true]) (by simp only [mz_RH_is, rs_isSlot_no q h.2 wo hx, zo_s, zc_t, zl_0, zr_e, z_0, z_1, if_true])
  have h16 := (mz_sl_le wo ha).1
  have h30 := (rl_le wo ha hs).1
  have e40 := (rl_le wo ha hs).2
  by_cases c1 : z < 0
  · exact mz_Ok.same H 0 (by simp only [ci_1 hR, cs_slotOf hR wo ha hs, if_neg smn, if_pos c1, zo_s, zc_t, zl_0, zr_e, z_0, z_1, if_true]) (by simp only [mz_RH_is, rs_isSlot q h.2 wo ha hs, if_neg one0, rs_within, if_pos c1, zo_s, zc_t, zl_0, zr_e, z_0, z_1, if_true])
  by_cases c2 : z ≤ 8
  case neg => exact mz_Ok.same H 0 (by simp only [ci_1 hR, cs_slotOf hR wo ha hs, if_neg smn, if_neg c1, if_neg c2, zo_s, zc_t, zl_0, zr_e, z_0, z_1, if_true]) (by simp only [mz_RH_is, rs_isSlot q h.2 wo ha hs, if_neg one0, rs_within, if_neg c1, if_pos (Int32.not_le.mp c2), zo_s, zc_t, zl_0, zr_e, z_0, z_1, if_true])
  have c2' := Int32.not_lt.mpr c2
  have nz : ∀ F : Int32, F = 1 ∨ F = 2 ∨ F = 3 → ¬ F = 0 := fun F hF => by rcases hF with rfl | rfl | rfl <;> decide
  have X0 : ∀ F, fn_X11_faultOfRow h (some (ad (19, a, s, 0))) z = some (F, h, 0, 0) → ¬ F = 0 → (fun h => mz_chk (mz_is h (some (ad (1, 0, 0, 0))) 10) <| mz_call (fn_X11_slotOf h (some (ad (1, 0, 0, 0))) (nI a) (nI s)) fun v1 h => if v1 = none then mz_ret (0 : Int64) h else if z < 0 then mz_ret 0 h else if z ≤ 8 then mz_call (fn_X11_faultOfRow h v1 z) fun v2 h => if v2 = 0 then mz_chk (mz_is h v1 5) <| mz_call (fn_X6_faultAt h v1 i 0) fun v3 h => fn_X11_as_b55 h (some (ad (1, 0, 0, 0))) i v1 v3 else fn_X11_as_b55 h (some (ad (1, 0, 0, 0))) i v1 v2 else mz_ret 0 h) h = mz_call (fn_X11_zeroAfter h (some (ad (1, 0, 0, 0))) F) fun v h => mz_ret v h := fun F e1 e2 => by
    simp only [ci_1 hR, cs_slotOf hR wo ha hs, if_neg smn, if_neg c1, if_pos c2, e1, if_neg e2, fn_X11_as_b55, zc_t, zl_0]
  rcases (wo.2.2.2.1 a s ha hs).2.2.2.1 with h1 | h1
  · refine ok_failJ2 H 1 (X0 1 ?_ (by decide)) (fun sz => ?_)
    · simp only [fn_X11_faultOfRow, ci_19 hR ha hs, cs_nothing hR wo ha hs, h1, if_neg one0, zo_s, zc_t, zl_0, zr_e, z_0, z_1, if_true]
    · simp only [mz_RH_is, rs_isSlot q sz wo ha hs, if_neg one0, rs_within, if_neg c1, if_neg c2', l16, rr_39, ra_39, ix_nI (show 16 * a + s < 960 by omega) (show 960 < 2 ^ 31 by omega), cl_nI (show 16 * a + s < 2 ^ 31 by omega), h1, zo_s, zc_t, zl_0, if_true]
  by_cases h2 : rs.2.1 37 (16 * a + s) = 2
  · refine ok_failJ2 H 2 (X0 2 ?_ (by decide)) (fun sz => ?_)
    · simp only [fn_X11_faultOfRow, fn_X11_faultOfRow_b25, ci_19 hR ha hs, cs_nothing hR wo ha hs, h1, if_neg one0, cg_19_2 hR ha hs, if_pos h2, zo_s, zc_t, zl_0, zr_e, z_0, z_1, if_true]
    · by_cases h3 : rs.2.1 36 (16 * a + s) = z
      · simp only [mz_RH_is, rs_isSlot q sz wo ha hs, if_neg one0, rs_within, if_neg c1, if_neg c2', l16, rr_39, ra_39, rr_36, ra_36, rr_37, ra_37, ix_nI (show 16 * a + s < 960 by omega) (show 960 < 2 ^ 31 by omega), cl_nI (show 16 * a + s < 2 ^ 31 by omega), h1, if_pos h3, if_pos h2, fn_X12_as_b74, zo_s, zc_t, zl_0, if_true]
      · simp only [mz_RH_is, rs_isSlot q sz wo ha hs, if_neg one0, rs_within, if_neg c1, if_neg c2', l16, rr_39, ra_39, rr_36, ra_36, rr_37, ra_37, ix_nI (show 16 * a + s < 960 by omega) (show 960 < 2 ^ 31 by omega), cl_nI (show 16 * a + s < 2 ^ 31 by omega), h1, if_neg h3, fn_X12_as_b74, zo_s, zc_t, zl_0, if_true]
  by_cases h3 : rs.2.1 36 (16 * a + s) = z
  case neg =>
    refine ok_failJ2 H 2 (X0 2 ?_ (by decide)) (fun sz => ?_)
    · simp only [fn_X11_faultOfRow, fn_X11_faultOfRow_b25, ci_19 hR ha hs, cs_nothing hR wo ha hs, h1, if_neg one0, cg_19_2 hR ha hs, if_neg h2, cg_19_1 hR ha hs, if_neg h3, zo_s, zc_t, zl_0, zr_e, z_0, z_1, if_true]
    · simp only [mz_RH_is, rs_isSlot q sz wo ha hs, if_neg one0, rs_within, if_neg c1, if_neg c2', l16, rr_39, ra_39, rr_36, ra_36, ix_nI (show 16 * a + s < 960 by omega) (show 960 < 2 ^ 31 by omega), cl_nI (show 16 * a + s < 2 ^ 31 by omega), h1, if_neg h3, fn_X12_as_b74, zo_s, zc_t, zl_0, if_true]
  have fr : fn_X11_faultOfRow h (some (ad (19, a, s, 0))) z = some (0, h, 0, 0) := by
    simp only [fn_X11_faultOfRow, ci_19 hR ha hs, cs_nothing hR wo ha hs, h1, if_neg one0, cg_19_2 hR ha hs, if_neg h2, cg_19_1 hR ha hs, if_pos h3, zo_s, zc_t, zl_0, zr_e, z_0, z_1, if_true]
  rcases mz_no i (show mz_rl rs (16 * a + s) < 2 ^ 31 by omega) with hi | ⟨i0, hi0, rfl⟩
  · have P : mz_PC rs a s i 0 3 (0, 0, 0, 0) 0 0 := Or.inr (Or.inl ⟨h1, hi, rfl⟩)
    refine ok_failJ2 H 3 ?_ (fun sz => ?_)
    · simp only [ci_1 hR, cs_slotOf hR wo ha hs, if_neg smn, if_neg c1, if_pos c2, fr, ci_19 hR ha hs, cs_faultAt hR wo ha hs P, fn_X11_as_b55, if_neg i31, zc_t, zl_0, if_true]
    · by_cases c3 : i < 0
      · simp only [mz_RH_is, rs_isSlot q sz wo ha hs, if_neg one0, rs_within, if_neg c1, if_neg c2', l16, rr_39, ra_39, rr_36, ra_36, rr_37, ra_37, ix_nI (show 16 * a + s < 960 by omega) (show 960 < 2 ^ 31 by omega), cl_nI (show 16 * a + s < 2 ^ 31 by omega), h1, if_pos h3, if_neg h2, if_pos c3, fn_X12_as_b95, zo_s, zc_t, zl_0, if_true]
      · simp only [mz_RH_is, rs_isSlot q sz wo ha hs, if_neg one0, rs_within, if_neg c1, if_neg c2', l16, rr_39, ra_39, rr_36, ra_36, rr_37, ra_37, rr_40, ra_40, ix_nI (show 16 * a + s < 960 by omega) (show 960 < 2 ^ 31 by omega), cl_nI (show 16 * a + s < 2 ^ 31 by omega), h1, if_pos h3, if_neg h2, if_neg c3, e40, if_neg (Int32.not_lt.mpr (hi.resolve_left c3)), fn_X12_as_b95, zo_s, zc_t, zl_0, if_true]
  · have P : mz_PC rs a s (nI i0) 0 0 (21, a, s, 0) i0 (900 * (16 * a + s) + i0) := Or.inr (Or.inr (Or.inl ⟨h1, h2, rfl, hi0, rfl, rfl, rfl⟩))
    refine mz_Ok.same H (rs.2.2 43 (900 * (16 * a + s) + i0)) ?_ ?_
    · simp only [ci_1 hR, cs_slotOf hR wo ha hs, if_neg smn, if_neg c1, if_pos c2, fr, ci_19 hR ha hs, cs_faultAt hR wo ha hs P, fn_X11_as_b55, cs_cellAt hR wo ha hs P, zo_s, zc_t, zl_0, zr_e, z_0, z_1, if_true]
    · simp only [mz_RH_is, rs_isSlot q h.2 wo ha hs, if_neg one0, rs_within, if_neg c1, if_neg c2', l16, rr_39, ra_39, rr_36, ra_36, rr_37, ra_37, rr_40, ra_40, rr_43, ra_43, ix_nI (show 16 * a + s < 960 by omega) (show 960 < 2 ^ 31 by omega), cl_nI (show 16 * a + s < 2 ^ 31 by omega), h1, if_pos h3, if_neg h2, if_neg (nI_pos (show i0 < 2 ^ 31 by omega)), e40, if_pos (nI_lt hi0 (show mz_rl rs (16 * a + s) < 2 ^ 31 by omega)), l900, ix_nI (show 900 * (16 * a + s) + i0 < 864000 by omega) (show 864000 < 2 ^ 31 by omega), cl_nI (show 900 * (16 * a + s) + i0 < 2 ^ 31 by omega), zo_s, zc_t, zl_0, zr_e, z_0, z_1, if_true]

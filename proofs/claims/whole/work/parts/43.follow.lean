/-! follow -/
theorem i_to (o : Nat) : ((nI o).toInt64).toInt32 = nI o := Int32.toInt32_toInt64 _
theorem ok_follow {VB q l : Nat} {rs : mz_RS} {h : mz_H} {n m : Nat} {ad : mz_T → Nat} {lv : Nat → Int32} {mk : Nat → Nat} {mm : Nat → Nat → Nat × Nat} {gi : Nat → Nat → Nat → Int32} {go : Nat → Nat → Option Nat} {gj : Nat → Nat → Int64} (hR : mz_Rp VB n m rs ad lv mk mm gi go gj h) (H : mz_In VB (ad (1, 0, 0, 0)) (l + 1) rs h) (wo : mz_wo n m rs) (k : Int32) {t : Nat} (ht : t ≤ 20) :
    ∀ (d c f g a : Nat), c + d = t → d < f → d < g → a < m → mz_Ok VB (ad (1, 0, 0, 0)) q l rs (fun h => fn_X11_follow_b41 f h (some (ad (1, 0, 0, 0))) k (nI t) (nI a) (nI c)) (fun h => fn_X12_follow_b44 g h (some q) k (nI t) (nI a) (nI c)) h := by
  have hm60 := wo.1
  intro d
  induction d with
  | zero =>
    intro c f g a hc hf hg ha
    obtain ⟨f, rfl⟩ : ∃ g, f = g + 1 := ⟨f - 1, by omega⟩
    obtain ⟨g, rfl⟩ : ∃ g', g = g' + 1 := ⟨g - 1, by omega⟩
    have h2 : nI t ≤ nI c := nI_le (by omega) (by omega)
    exact mz_Ok.same H (nI a) (by simp only [fn_X11_follow_b41, if_pos h2, zo_s, zc_t, zl_0, zr_e, z_0, z_1, if_true]) (by simp only [fn_X12_follow_b44, if_pos h2, zo_s, zc_t, zl_0, zr_e, z_0, z_1, if_true])
  | succ d ih =>
    intro c f g a hc hf hg ha
    obtain ⟨f, rfl⟩ : ∃ g, f = g + 1 := ⟨f - 1, by omega⟩
    obtain ⟨g, rfl⟩ : ∃ g', g = g' + 1 := ⟨g - 1, by omega⟩
    have h2 : ¬ nI t ≤ nI c := nI_ge (show c < t by omega) (by omega)
    have X : ∀ F, fn_X11_faultOfStep h (some (ad (17, a, 0, 0))) k = some (F, h, 0, 0) → ¬ F = 0 → fn_X11_follow_b41 (f + 1) h (some (ad (1, 0, 0, 0))) k (nI t) (nI a) (nI c) = mz_chk (mz_is h (some (ad (1, 0, 0, 0))) 10) (mz_call (fn_X11_comeTo h (some (ad (1, 0, 0, 0))) F) fun v h => mz_ret v h) := fun F e1 e2 => by
      simp only [fn_X11_follow_b41, if_neg h2, ci_1 hR, cs_thingOf hR wo.1 ha, e1, if_neg e2, zo_s, zc_t, zl_0]
    obtain ⟨r, F⟩ := mz_fs.ex rs a k
    have SN := cs_slotNamed hR wo ha F
    have RN := fun sz => rs_slotNo q sz wo ha F
    rcases id F with ⟨rfl, -⟩ | ⟨s, rfl, hs, -⟩
    · refine ok_fail H 7 (X 7 ?_ (by decide)) (fun sz => ?_)
      · simp only [fn_X11_faultOfStep, if_neg smn, ci_17 hR ha, SN, fn_X11_faultOfStep_b13, Option.map, zo_s, zc_t, zl_0, zr_e, z_0, z_1, if_true]
      · simp only [fn_X12_follow_b44, if_neg h2, mz_RH_is, RN, mz_fn, zo_s, zc_t, zl_0, if_true]
    have h16 := (mz_sl_le wo ha).1
    have h30 := (rl_le wo ha hs).1
    have e40 := (rl_le wo ha hs).2
    have s9 := nI_ne9 (show s < 2 ^ 31 by omega)
    have one3 : ¬ (1 : Int32) = 0 := one0
    have two0 : ¬ (2 : Int32) = 0 := by decide
    rcases (wo.2.2.2.1 a s ha hs).2.2.2.1 with h1 | h1
    · refine ok_fail H 1 (X 1 ?_ (by decide)) (fun sz => ?_)
      · simp only [fn_X11_faultOfStep, if_neg smn, ci_17 hR ha, SN, fn_X11_faultOfStep_b13, Option.map, fn_X11_faultOfRow, ci_19 hR ha hs, cs_nothing hR wo ha hs, h1, if_neg one0, fn_X11_faultOfStep_b39, zo_s, zc_t, zl_0, zr_e, z_0, z_1, if_true]
      · simp only [fn_X12_follow_b44, if_neg h2, mz_RH_is, RN, mz_fn, if_neg s9, l16, rr_39, ra_39, ix_nI (show 16 * a + s < 960 by omega) (show 960 < 2 ^ 31 by omega), cl_nI (show 16 * a + s < 2 ^ 31 by omega), h1, zo_s, zc_t, zl_0, if_true]
    by_cases h3 : rs.2.1 36 (16 * a + s) = 8
    case neg =>
      refine ok_fail H 2 (X 2 ?_ (by decide)) (fun sz => ?_)
      · by_cases hd : rs.2.1 37 (16 * a + s) = 2
        · simp only [fn_X11_faultOfStep, if_neg smn, ci_17 hR ha, SN, fn_X11_faultOfStep_b13, Option.map, fn_X11_faultOfRow, ci_19 hR ha hs, cs_nothing hR wo ha hs, h1, if_neg one0, cg_19_2 hR ha hs, if_pos hd, fn_X11_faultOfRow_b25, if_neg two0, fn_X11_faultOfStep_b39, zo_s, zc_t, zl_0, zr_e, z_0, z_1, if_true]
        · simp only [fn_X11_faultOfStep, if_neg smn, ci_17 hR ha, SN, fn_X11_faultOfStep_b13, Option.map, fn_X11_faultOfRow, ci_19 hR ha hs, cs_nothing hR wo ha hs, h1, if_neg one0, cg_19_2 hR ha hs, if_neg hd, cg_19_1 hR ha hs, if_neg h3, fn_X11_faultOfRow_b25, if_neg two0, fn_X11_faultOfStep_b39, zo_s, zc_t, zl_0, zr_e, z_0, z_1, if_true]
      · simp only [fn_X12_follow_b44, if_neg h2, mz_RH_is, RN, mz_fn, if_neg s9, l16, rr_39, ra_39, rr_36, ra_36, ix_nI (show 16 * a + s < 960 by omega) (show 960 < 2 ^ 31 by omega), cl_nI (show 16 * a + s < 2 ^ 31 by omega), h1, if_neg one0, if_neg h3, fn_X12_follow_b122, zo_s, zc_t, zl_0, if_true]
    by_cases hd : rs.2.1 37 (16 * a + s) = 2
    · refine ok_fail H 2 (X 2 ?_ (by decide)) (fun sz => ?_)
      · simp only [fn_X11_faultOfStep, if_neg smn, ci_17 hR ha, SN, fn_X11_faultOfStep_b13, Option.map, fn_X11_faultOfRow, ci_19 hR ha hs, cs_nothing hR wo ha hs, h1, if_neg one0, cg_19_2 hR ha hs, if_pos hd, fn_X11_faultOfRow_b25, if_neg two0, fn_X11_faultOfStep_b39, zo_s, zc_t, zl_0, zr_e, z_0, z_1, if_true]
      · simp only [fn_X12_follow_b44, if_neg h2, mz_RH_is, RN, mz_fn, if_neg s9, l16, rr_39, ra_39, rr_36, ra_36, rr_37, ra_37, ix_nI (show 16 * a + s < 960 by omega) (show 960 < 2 ^ 31 by omega), cl_nI (show 16 * a + s < 2 ^ 31 by omega), h1, if_neg one0, if_pos h3, if_pos hd, fn_X12_follow_b122, zo_s, zc_t, zl_0, if_true]
    by_cases hL : mz_rl rs (16 * a + s) = 0
    · have P : mz_PC rs a s 0 0 3 (0, 0, 0, 0) 0 0 := Or.inr (Or.inl ⟨h1, Or.inr (by rw [hL]; decide), rfl⟩)
      refine ok_fail H 3 (X 3 ?_ (by decide)) (fun sz => ?_)
      · simp only [fn_X11_faultOfStep, if_neg smn, ci_17 hR ha, SN, fn_X11_faultOfStep_b13, Option.map, fn_X11_faultOfRow, ci_19 hR ha hs, cs_nothing hR wo ha hs, h1, if_neg one0, cg_19_2 hR ha hs, if_neg hd, cg_19_1 hR ha hs, if_pos h3, cs_faultAt hR wo ha hs P, if_neg i31, fn_X11_faultOfStep_b39, zo_s, zc_t, zl_0, zr_e, z_0, z_1, if_true]
      · rw [hL] at e40
        simp only [fn_X12_follow_b44, if_neg h2, mz_RH_is, RN, mz_fn, if_neg s9, l16, rr_39, ra_39, rr_36, ra_36, rr_37, ra_37, rr_40, ra_40, ix_nI (show 16 * a + s < 960 by omega) (show 960 < 2 ^ 31 by omega), cl_nI (show 16 * a + s < 2 ^ 31 by omega), h1, if_neg one0, if_pos h3, if_neg hd, e40, if_pos (show nI 0 = 0 from rfl), zo_s, zc_t, zl_0, if_true]
    have P : mz_PC rs a s 0 0 0 (21, a, s, 0) 0 (900 * (16 * a + s)) := Or.inr (Or.inr (Or.inl ⟨h1, hd, rfl, by omega, rfl, rfl, rfl⟩))
    have hL' : ¬ nI (mz_rl rs (16 * a + s)) = 0 := fun e => hL (by
      have := congrArg Int32.toNatClampNeg e
      rw [cl_nI (by omega)] at this
      exact this)
    by_cases cv : lg_cmp (rs.2.2 43 (900 * (16 * a + s))) (-9) = 0
    · refine ok_fail H 1 (X 1 ?_ (by decide)) (fun sz => ?_)
      · simp only [fn_X11_faultOfStep, if_neg smn, ci_17 hR ha, SN, fn_X11_faultOfStep_b13, Option.map, fn_X11_faultOfRow, ci_19 hR ha hs, cs_nothing hR wo ha hs, h1, if_neg one0, cg_19_2 hR ha hs, if_neg hd, cg_19_1 hR ha hs, if_pos h3, cs_faultAt hR wo ha hs P, cs_cellAt hR wo ha hs P, if_pos cv, fn_X11_faultOfStep_b39, zo_s, zc_t, zl_0, zr_e, z_0, z_1, if_true]
      · simp only [fn_X12_follow_b44, if_neg h2, mz_RH_is, RN, mz_fn, if_neg s9, l16, rr_39, ra_39, rr_36, ra_36, rr_37, ra_37, rr_40, ra_40, rr_43, ra_43, ix_nI (show 16 * a + s < 960 by omega) (show 960 < 2 ^ 31 by omega), cl_nI (show 16 * a + s < 2 ^ 31 by omega), h1, if_neg one0, if_pos h3, if_neg hd, e40, if_neg hL', l900', ix_nI (show 900 * (16 * a + s) < 864000 by omega) (show 864000 < 2 ^ 31 by omega), cl_nI (show 900 * (16 * a + s) < 2 ^ 31 by omega), if_pos cv, zo_s, zc_t, zl_0, if_true]
    · have hv := wo.2.2.2.2.2.2 a s 0 ha hs hd h1 (by omega) h3
      rw [Nat.add_zero] at hv
      rcases hv with hv | ⟨a2, ha2, hv⟩
      · rw [hv] at cv
        exact absurd (by decide) cv
      · refine mz_Ok.cong ?_ (fun sz => ?_) (ih (c + 1) f g a2 (by omega) (by omega) (by omega) ha2)
        · have FS : fn_X11_faultOfStep h (some (ad (17, a, 0, 0))) k = some (0, h, 0, 0) := by
            simp only [fn_X11_faultOfStep, if_neg smn, ci_17 hR ha, SN, fn_X11_faultOfStep_b13, Option.map, fn_X11_faultOfRow, ci_19 hR ha hs, cs_nothing hR wo ha hs, h1, if_neg one0, cg_19_2 hR ha hs, if_neg hd, cg_19_1 hR ha hs, if_pos h3, cs_faultAt hR wo ha hs P, cs_cellAt hR wo ha hs P, if_neg cv, fn_X11_faultOfStep_b39, zo_s, zc_t, zl_0, zr_e, z_0, z_1, if_true]
          have NF : fn_X11_nextFrom h (some (ad (17, a, 0, 0))) k = some (nI a2, h, 0, 0) := by
            simp only [fn_X11_nextFrom, if_neg smn, ci_17 hR ha, SN, fn_X11_nextFrom_b13, Option.map, ci_19 hR ha hs, cs_cellAt hR wo ha hs P, hv, i_to, zo_s, zc_t, zl_0, zr_e, z_0, z_1, if_true]
          show fn_X11_follow_b41 (f + 1) h (some (ad (1, 0, 0, 0))) k (nI t) (nI a) (nI c) = fn_X11_follow_b41 f h (some (ad (1, 0, 0, 0))) k (nI t) (nI a2) (nI (c + 1))
          rw [show nI (c + 1) = nI c + 1 from (nI_add c 1).symm]
          simp only [fn_X11_follow_b41, if_neg h2, ci_1 hR, cs_thingOf hR wo.1 ha, FS, NF, zo_s, zc_t, zl_0, if_true]
        · show fn_X12_follow_b44 (g + 1) (mz_RH q sz rs) (some q) k (nI t) (nI a) (nI c) = fn_X12_follow_b44 g (mz_RH q sz rs) (some q) k (nI t) (nI a2) (nI (c + 1))
          rw [show nI (c + 1) = nI c + 1 from (nI_add c 1).symm]
          have cv' := cv
          rw [hv] at cv'
          simp only [fn_X12_follow_b44, if_neg h2, mz_RH_is, RN, mz_fn, if_neg s9, l16, rr_39, ra_39, rr_36, ra_36, rr_37, ra_37, rr_40, ra_40, rr_43, ra_43, ix_nI (show 16 * a + s < 960 by omega) (show 960 < 2 ^ 31 by omega), cl_nI (show 16 * a + s < 2 ^ 31 by omega), h1, if_neg one0, if_pos h3, if_neg hd, e40, if_neg hL', l900', ix_nI (show 900 * (16 * a + s) < 864000 by omega) (show 864000 < 2 ^ 31 by omega), cl_nI (show 900 * (16 * a + s) < 2 ^ 31 by omega), hv, if_neg cv', i_to, zo_s, zc_t, zl_0, if_true]
theorem k_follow {VB o q l : Nat} {rs : mz_RS} {h : mz_H} (H : mz_In VB o (l + 1) rs h) (x k y : Int32) : mz_Ok VB o q l rs (fun h => fn_X11_follow h (some o) x k y) (fun h => fn_X12_follow h (some q) x k y) h := by
  refine ok_flt H (fun _ => rfl) (fun _ => rfl) (fun h1 H1 => ?_)
  clear H
  revert H1
  generalize mz_si rs 0 0 = rs
  clear h
  intro H
  generalize h1 = h at H ⊢
  obtain ⟨n, m, ad, lv, mk, mm, gi, go, gj, hR, w⟩ := id H
  obtain ⟨wc, wm, wo, wt, wl, wq, wa, wv⟩ := id w
  obtain rfl : ad (1, 0, 0, 0) = o := wa
  have hn40 := wc.1
  have hm60 := wo.1
  rcases mz_no x (show m < 2 ^ 31 by omega) with hx | ⟨a, ha, rfl⟩
  · exact mz_Ok.same H (-1) (by simp only [ci_1 hR, cs_thingOf_no hR hx, zo_s, zc_t, zl_0, zr_e, z_0, z_1, if_true]) (by simp only [mz_RH_is, rs_isObject_no q h.2 wo.2.1 hx, zo_s, zc_t, zl_0, zr_e, z_0, z_1, if_true])
  by_cases c1 : k < 0
  · exact mz_Ok.same H (-2) (by simp only [ci_1 hR, cs_thingOf hR wo.1 ha, if_neg smn, cs_isName, if_pos c1, zo_s, zc_t, zl_0, zr_e, z_0, z_1, if_true]) (by simp only [mz_RH_is, rs_isObject q h.2 wo.2.1 wo.1 ha, if_neg one0, rs_within, if_pos c1, zo_s, zc_t, zl_0, zr_e, z_0, z_1, if_true])
  by_cases c2 : 31 ≤ k
  · have c2' : (30 : Int32) < k := Int32.lt_of_lt_of_le (by decide) c2
    exact mz_Ok.same H (-2) (by simp only [ci_1 hR, cs_thingOf hR wo.1 ha, if_neg smn, cs_isName, if_neg c1, if_pos c2, zo_s, zc_t, zl_0, zr_e, z_0, z_1, if_true]) (by simp only [mz_RH_is, rs_isObject q h.2 wo.2.1 wo.1 ha, if_neg one0, rs_within, if_neg c1, if_pos c2', zo_s, zc_t, zl_0, zr_e, z_0, z_1, if_true])
  have c2' : ¬ (30 : Int32) < k := fun q => by
    rcases pk_ix k (show 31 < 2 ^ 31 by omega) with u | u | ⟨j, hj, rfl⟩
    · exact c1 u
    · exact c2 u
    · exact nI_nlt (show j ≤ 30 by omega) (show 30 < 2 ^ 31 by omega) q
  by_cases c3 : y < 0
  · exact mz_Ok.same H (-2) (by simp only [ci_1 hR, cs_thingOf hR wo.1 ha, if_neg smn, cs_isName, if_neg c1, if_neg c2, if_neg one0, if_pos c3, zo_s, zc_t, zl_0, zr_e, z_0, z_1, if_true]) (by simp only [mz_RH_is, rs_isObject q h.2 wo.2.1 wo.1 ha, if_neg one0, rs_within, if_neg c1, if_neg c2', if_pos c3, zo_s, zc_t, zl_0, zr_e, z_0, z_1, if_true])
  by_cases c4 : y ≤ 20
  case neg => exact mz_Ok.same H (-2) (by simp only [ci_1 hR, cs_thingOf hR wo.1 ha, if_neg smn, cs_isName, if_neg c1, if_neg c2, if_neg one0, if_neg c3, if_neg c4, zo_s, zc_t, zl_0, zr_e, z_0, z_1, if_true]) (by simp only [mz_RH_is, rs_isObject q h.2 wo.2.1 wo.1 ha, if_neg one0, rs_within, if_neg c1, if_neg c2', if_neg c3, if_pos (Int32.not_le.mp c4), zo_s, zc_t, zl_0, zr_e, z_0, z_1, if_true])
  obtain ⟨t, ht, rfl⟩ : ∃ i : Nat, i < 21 ∧ y = nI i := by
    rcases pk_ix y (show 21 < 2 ^ 31 by omega) with q | q | q
    · exact absurd q c3
    · exact absurd c4 (Int32.not_le.mpr (Int32.lt_of_lt_of_le (by decide) q))
    · exact q
  refine mz_Ok.cong ?_ (fun sz => ?_) (ok_follow hR H wo k (show t ≤ 20 by omega) t 0 1001 1001 a (by omega) (by omega) (by omega) ha)
  · simp only [ci_1 hR, cs_thingOf hR wo.1 ha, if_neg smn, cs_isName, if_neg c1, if_neg c2, if_neg one0, if_neg c3, if_pos c4, zc_t, zl_0]
    rfl
  · simp only [mz_RH_is, rs_isObject q sz wo.2.1 wo.1 ha, if_neg one0, rs_within, if_neg c1, if_neg c2', if_neg c3, if_neg (Int32.not_lt.mpr c4), zc_t, zl_0]
    rfl

/-! variable -/
section
variable {VB : Nat} {n m : Nat} {rs : mz_RS} {ad : mz_T → Nat} {lv : Nat → Int32} {mk : Nat → Nat} {mm : Nat → Nat → Nat × Nat} {gi : Nat → Nat → Nat → Int32} {go : Nat → Nat → Option Nat} {gj : Nat → Nat → Int64} {h : mz_H}
theorem keep11 (wm : mz_wm n rs mk mm) {rs' : mz_RS} (e11 : rs'.2.1 11 = rs.2.1 11) (e12 : rs'.2.1 12 = rs.2.1 12) (e13 : rs'.2.1 13 = rs.2.1 13) (e8 : ∀ c b, c < n → nI b < rs.2.1 7 c → b < 2 → rs'.2.1 8 (2 * c + b) = rs.2.1 8 (2 * c + b)) (i j k : Nat) : mz_f11 n m rs' ad lv mk mm gi go gj i j k = mz_f11 n m rs ad lv mk mm gi go gj i j k := by
  unfold mz_f11
  by_cases hq : i < n ∧ j < mk i ∧ k = 0
  · rw [if_pos hq, if_pos hq, e12, e13]
    have hl : mz_lane rs' i ((3 * i + (mm i j).1) * 31 + (mm i j).2) = mz_lane rs i ((3 * i + (mm i j).1) * 31 + (mm i j).2) := by
      obtain ⟨hs, hk⟩ := wm.2.1 i hq.1 j hq.2.1
      have h1 : rs.2.1 10 ((3 * i + (mm i j).1) * 31 + (mm i j).2) = 1 := by
        rcases wm.2.2.2.1 i hq.1 (mm i j).1 (mm i j).2 hs hk with ⟨h, -⟩ | ⟨-, h⟩
        · exact h
        · exact absurd ⟨j, hq.2.1, rfl⟩ h
      obtain ⟨⟨l, hl, el, hb⟩, -⟩ := wm.2.2.2.2 i hq.1 (mm i j).1 (mm i j).2 hs hk h1
      unfold mz_lane
      rw [e11, el]
      by_cases h8 : (8 : Int32) < nI l
      · have hl8 : 8 < l := by
          rcases Nat.lt_or_ge 8 l with q | q
          · exact q
          · exact absurd h8 (nI_nlt q (show 8 < 2 ^ 31 by omega))
        have e9 : nI l - 9 = nI (l - 9) := by
          rcases (show l = 9 ∨ l = 10 by omega) with rfl | rfl <;> decide
        rw [if_pos h8, if_pos h8, e9, cl_nI (by omega)]
        exact e8 i (l - 9) hq.1 (hb hl8) (by omega)
      · rw [if_neg h8, if_neg h8]
    rw [hl]
  · rw [if_neg hq, if_neg hq]
theorem cw_bound (hR : mz_Rp VB n m rs ad lv mk mm gi go gj h) (wm : mz_wm n rs mk mm) {c b : Nat} (hc : c < n) (hb : b < 2) (e7 : rs.2.1 7 c = nI b) (v : Int32) : ∃ h', mz_sI h (some (ad (8, c, 0, 0))) 0 (nI b) v = some h' ∧ mz_Rp VB n m (mz_sa rs 8 (2 * c + b) v) ad lv mk mm gi go gj h' ∧ h'.2 = h.2 := by
  refine ⟨_, sI_of (cc_8 hR hc) (ix_nI hb (by omega)), hR.up 8 c 0 0 (Or.inl ?_) (cb_8 hR hc) ?_, rfl⟩
  · show mz_f8 n m (mz_sa rs 8 (2 * c + b) v) ad lv mk mm gi go gj c 0 0 = _
    rw [mz_f8, if_pos ⟨hc, rfl, rfl⟩, cl_nI (by omega)]
    refine congrArg (fun f => some (Sum.inl (0, 2, Sum.inl f))) (funext fun k => ?_)
    by_cases hk : k = b
    · subst hk
      simp [mz_sa, upd, hb]
    · have : ¬ 2 * c + k = 2 * c + b := by omega
      simp [mz_sa, upd, hk, this]
  · apply mz_hs <;> first | (exact fun _ _ _ _ => Or.inl rfl) | skip
    · intro i' j' k' hne
      refine Or.inl ?_
      unfold mz_f8
      by_cases hq : i' < n ∧ j' = 0 ∧ k' = 0
      · rw [if_pos hq, if_pos hq]
        refine congrArg (fun f => some (Sum.inl (0, 2, Sum.inl f))) (funext fun k => ?_)
        have hic : i' ≠ c := fun e => hne ⟨rfl, e, hq.2.1, hq.2.2⟩
        by_cases hk : k < 2
        · have : ¬ 2 * i' + k = 2 * c + b := by omega
          simp [mz_sa, upd, this]
        · simp [hk]
      · rw [if_neg hq, if_neg hq]
    · intro i' j' k' _
      refine Or.inl (keep11 (rs' := mz_sa rs 8 (2 * c + b) v) wm rfl rfl rfl (fun c' b' hc' hb' hb2 => ?_) i' j' k')
      show upd (rs.2.1 8) (2 * c + b) v (2 * c' + b') = _
      refine pk_un (fun e => ?_)
      have h1 : c' = c := by omega
      have h2 : b' = b := by omega
      subst h1
      subst h2
      rw [e7] at hb'
      exact nI_nlt (Nat.le_refl b') (by omega) hb'
theorem cw_bcount (hR : mz_Rp VB n m rs ad lv mk mm gi go gj h) {c : Nat} (hc : c < n) (v : Int32) : ∃ h', mz_pF h (some (ad (6, c, 0, 0))) 8 6 (.int v) = some h' ∧ mz_Rp VB n m (mz_sa rs 7 c v) ad lv mk mm gi go gj h' ∧ h'.2 = h.2 := by
  refine ⟨_, pF_of (cc_6 hR hc) (lt_rfl rfl), hR.up 6 c 0 0 (Or.inl ?_) (cb_6 hR hc) ?_, rfl⟩
  · show mz_f6 n m (mz_sa rs 7 c v) ad lv mk mm gi go gj c 0 0 = _
    rw [mz_f6, if_pos ⟨hc, rfl, rfl⟩]
    rw [show (mz_sa rs 7 c v).2.1 7 c = v from pk_us]
    rfl
  · apply mz_hs <;> first | (exact fun _ _ _ _ => Or.inl rfl) | skip
    intro i' j' k' hne
    refine Or.inl ?_
    unfold mz_f6
    by_cases hq : i' < n ∧ j' = 0 ∧ k' = 0
    · rw [if_pos hq, if_pos hq]
      have hic : i' ≠ c := fun e => hne ⟨rfl, e, hq.2.1, hq.2.2⟩
      rw [show (mz_sa rs 7 c v).2.1 7 i' = rs.2.1 7 i' from pk_un hic]
      rfl
    · rw [if_neg hq, if_neg hq]
theorem wc_var (wc : mz_wc n rs lv) {c b z : Nat} (hc : c < n) (hb : b < 2) (hz : z < 8) (e : rs.2.1 7 c = nI b) : mz_wc n (mz_sa (mz_sa rs 8 (2 * c + b) (nI z)) 7 c (nI (b + 1))) lv := by
  obtain ⟨a1, a2, a3, a4, a5, a6, a7, a8, a9, a10, a11⟩ := wc
  refine ⟨a1, a2, a3, a4, a5, a6, fun c' hc' => ?_, fun c' hc' => ⟨(a8 c' hc').1, ?_, (a8 c' hc').2.2⟩, a9, fun p hp => ?_, a11⟩
  · obtain ⟨g', hg', e', hd'⟩ := a7 c' hc'
    show ∃ g0, g0 ≤ 2 ∧ upd (rs.2.1 7) c (nI (b + 1)) c' = nI g0 ∧ ∀ i, i < g0 → ∃ d0, d0 < 8 ∧ upd (rs.2.1 8) (2 * c + b) (nI z) (2 * c' + i) = nI d0
    by_cases h : c' = c
    · subst h
      rw [pk_us]
      refine ⟨b + 1, by omega, rfl, fun i hi => ?_⟩
      by_cases hig : i = b
      · subst hig
        exact ⟨z, hz, pk_us⟩
      · rw [pk_un (by omega)]
        have hgg : g' = b := by
          rw [e'] at e
          have := congrArg Int32.toNatClampNeg e
          rw [cl_nI (by omega), cl_nI (by omega)] at this
          exact this
        exact hd' i (by omega)
    · rw [pk_un h]
      refine ⟨g', hg', e', fun i hi => ?_⟩
      rw [pk_un (by omega)]
      exact hd' i hi
  · show upd (rs.2.1 7) c (nI (b + 1)) c' = 0
    rw [pk_un (by omega)]
    exact (a8 c' hc').2.1
  · show upd (rs.2.1 8) (2 * c + b) (nI z) p = 0
    rw [pk_un (by omega)]
    exact a10 p hp
theorem wm_var (wm : mz_wm n rs mk mm) {c b : Nat} {v : Int32} (hb : b < 2) (e : rs.2.1 7 c = nI b) : mz_wm n (mz_sa (mz_sa rs 8 (2 * c + b) v) 7 c (nI (b + 1))) mk mm := by
  obtain ⟨a1, a2, a3, a4, a5⟩ := wm
  refine ⟨a1, a2, a3, a4, fun c' hc' s k hs hk h1 => ?_⟩
  obtain ⟨⟨l, hl, el, hb'⟩, r⟩ := a5 c' hc' s k hs hk h1
  refine ⟨⟨l, hl, el, fun h8 => ?_⟩, r⟩
  show nI (l - 9) < upd (rs.2.1 7) c (nI (b + 1)) c'
  by_cases h : c' = c
  · subst h
    rw [pk_us]
    have := hb' h8
    rw [e] at this
    exact Int32.lt_trans this (nI_lt (by omega) (by omega))
  · rw [pk_un h]
    exact hb' h8
end
theorem k_variable {VB o q l : Nat} {rs : mz_RS} {h : mz_H} (H : mz_In VB o (l + 1) rs h) (x z : Int32) : mz_Ok VB o q l rs (fun h => fn_X11_variable h (some o) x z) (fun h => fn_X12_variable h (some q) x z) h := by
  obtain ⟨n, m, ad, lv, mk, mm, gi, go, gj, hR, w⟩ := id H
  obtain ⟨wc, wm, wo, wt, wl, wq, wa, wv⟩ := id w
  obtain rfl : ad (1, 0, 0, 0) = o := wa
  have hn40 := wc.1
  have hm60 := wo.1
  rcases mz_no x (show n < 2 ^ 31 by omega) with hx | ⟨c, hc, rfl⟩
  · exact mz_Ok.same H (-1) (by simp only [fn_X11_variable, cg_1_0 hR, ci_2 hR, cs_typeOf_no hR hx, zo_s, zc_t, zl_0, zr_e, z_0, z_1, if_true]) (by simp only [fn_X12_variable, mz_RH_is, rs_isClass_no q h.2 wc.2.1 hx, zo_s, zc_t, zl_0, zr_e, z_0, z_1, if_true])
  have RC := fun sz => rs_isClass (rs := rs) q sz wc.2.1 wc.1 hc
  by_cases c1 : z < 0
  · exact mz_Ok.same H (-2) (by simp only [fn_X11_variable, cg_1_0 hR, ci_2 hR, cs_typeOf hR wc.1 hc, if_neg smn, cs_isLane, if_pos c1, zo_s, zc_t, zl_0, zr_e, z_0, z_1, if_true]) (by simp only [fn_X12_variable, mz_RH_is, RC, if_neg one0, rs_within, if_pos c1, zo_s, zc_t, zl_0, zr_e, z_0, z_1, if_true])
  by_cases c2 : 7 < z
  · exact mz_Ok.same H (-2) (by simp only [fn_X11_variable, cg_1_0 hR, ci_2 hR, cs_typeOf hR wc.1 hc, if_neg smn, cs_isLane, if_neg c1, if_pos c2, zo_s, zc_t, zl_0, zr_e, z_0, z_1, if_true]) (by simp only [fn_X12_variable, mz_RH_is, RC, if_neg one0, rs_within, if_neg c1, if_pos c2, zo_s, zc_t, zl_0, zr_e, z_0, z_1, if_true])
  obtain ⟨y, hy, rfl⟩ : ∃ i : Nat, i < 8 ∧ z = nI i := by
    rcases pk_ix z (show 8 < 2 ^ 31 by omega) with q | q | q
    · exact absurd q c1
    · exact absurd (Int32.lt_of_lt_of_le (by decide) q) c2
    · exact q
  obtain ⟨b, hb, e7, -⟩ := wc.2.2.2.2.2.2.1 c hc
  by_cases b2 : b = 2
  · subst b2
    have n2 : ¬ nI 2 < 2 := by decide
    exact mz_Ok.same H (-4) (by simp only [fn_X11_variable, cg_1_0 hR, ci_2 hR, cs_typeOf hR wc.1 hc, if_neg smn, cs_isLane, if_neg c1, if_neg c2, if_neg one0, cg_6_6 hR hc, e7, if_neg n2, zo_s, zc_t, zl_0, zr_e, z_0, z_1, if_true]) (by simp only [fn_X12_variable, mz_RH_is, RC, if_neg one0, rs_within, if_neg c1, if_neg c2, rr_7, ra_7, ix_nI (show c < 40 by omega) (show 40 < 2 ^ 31 by omega), cl_nI (show c < 2 ^ 31 by omega), e7, if_pos i22, zo_s, zc_t, zl_0, zr_e, z_0, z_1, if_true])
  have hb2 : b < 2 := by omega
  have l2' : nI b < 2 := nI_lt hb2 (show 2 < 2 ^ 31 by omega)
  have n2 : ¬ nI b = 2 := nI_ne b2 (by omega) (show 2 < 2 ^ 31 by omega)
  obtain ⟨h1, k1, R1, s1⟩ := cw_bound hR wm hc hb2 e7 (nI y)
  obtain ⟨h2, k2, R2, s2⟩ := cw_bcount R1 hc (nI (b + 1))
  have eb1 : nI b + 1 = nI (b + 1) := nI_add b 1
  have eb2 : nI (b + 1) - 1 = nI b := by rw [← eb1]; exact Int32.add_sub_cancel _ _
  have g1 : mz_fI h1 (some (ad (6, c, 0, 0))) 8 6 = some (nI b) := by rw [cg_6_6 R1 hc]; exact congrArg some e7
  have g2 : mz_fI h2 (some (ad (6, c, 0, 0))) 8 6 = some (nI (b + 1)) := by rw [cg_6_6 R2 hc]; exact congrArg some pk_us
  have m5 : (mz_sa rs 8 (2 * c + b) (nI y)).2.1 7 c = nI b := e7
  have m6 : (mz_sa (mz_sa rs 8 (2 * c + b) (nI y)) 7 c (nI (b + 1))).2.1 7 c = nI (b + 1) := pk_us
  refine ⟨nI b, h2, 0, 0, mz_sa (mz_sa rs 8 (2 * c + b) (nI y)) 7 c (nI (b + 1)), ?_, ?_, ⟨n, m, ad, lv, mk, mm, gi, go, gj, R2, wc_var wc hc hb2 hy e7, wm_var wm hb2 e7, wo, wt, wl, wq, rfl, by omega⟩, by omega, Nat.le_refl _, by omega, by omega⟩
  · simp only [fn_X11_variable, cg_1_0 hR, ci_2 hR, cs_typeOf hR wc.1 hc, if_neg smn, cs_isLane, if_neg c1, if_neg c2, if_neg one0, cg_6_6 hR hc, e7, if_pos l2', cg_6_5 hR hc, k1, g1, eb1, k2, g2, eb2, zo_s, zc_t, zl_0, zr_e, z_0, z_1, if_true]
  · simp only [fn_X12_variable, mz_RH_is, RC, if_neg one0, rs_within, if_neg c1, if_neg c2, rr_7, ra_7, rr_8, rw_8, rw_7, ix_nI (show c < 40 by omega) (show 40 < 2 ^ 31 by omega), cl_nI (show c < 2 ^ 31 by omega), e7, if_neg n2, l2, ix_nI (show 2 * c + b < 80 by omega) (show 80 < 2 ^ 31 by omega), cl_nI (show 2 * c + b < 2 ^ 31 by omega), m5, eb1, m6, eb2, zo_s, zc_t, zl_0, zr_e, z_0, z_1, if_true]

/-! board, stand, slot, follow -/
theorem li_no (x : Int32) : x < 0 ∨ (¬ x < 0 ∧ 4 ≤ x ∧ 3 < x) ∨ ∃ j, j < 4 ∧ x = nI j ∧ ¬ x < 0 ∧ ¬ 4 ≤ x ∧ ¬ 3 < x := by
  by_cases c1 : x < 0
  · exact Or.inl c1
  rcases pk_ix x (show 4 < 2 ^ 31 by omega) with q | q | ⟨j, hj, rfl⟩
  · exact absurd q c1
  · exact Or.inr (Or.inl ⟨c1, q, Int32.lt_of_lt_of_le (by decide) q⟩)
  · exact Or.inr (Or.inr ⟨j, hj, rfl, c1, nI_ge hj (show 4 < 2 ^ 31 by omega), nI_nlt (show j ≤ 3 by omega) (show 3 < 2 ^ 31 by omega)⟩)
section
variable {VB : Nat} {n m : Nat} {rs : mz_RS} {ad : mz_T → Nat} {lv : Nat → Int32} {mk : Nat → Nat} {mm : Nat → Nat → Nat × Nat} {gi : Nat → Nat → Nat → Int32} {go : Nat → Nat → Option Nat} {gj : Nat → Nat → Int64} {h : mz_H}
theorem cs_has4 (hR : mz_Rp VB n m rs ad lv mk mm gi go gj h) {j L : Nat} (hj : j < 4) (hL : L ≤ 8) (e : rs.2.1 49 j = nI L) (x : Int32) : fn_X4_has h (some (ad (28, j, 0, 0))) x = some (if x < 0 then 0 else if nI L ≤ x then 0 else 1, h, 0, 0) := by
  have c0 : 0 ≤ rs.2.1 49 j := by rw [e]; exact nI_pos' (by omega)
  have eL : Int32.ofNat (rs.2.1 49 j).toNatClampNeg = nI L := by rw [e, cl_nI (by omega)]; rfl
  by_cases c1 : x < 0
  · simp only [fn_X4_has, if_pos c1, zo_s, zc_t, zl_0, zr_e, z_0, z_1, if_true]
  · by_cases c2 : nI L ≤ x
    · simp only [fn_X4_has, if_neg c1, cg_28_1 hR hj c0, cl_29a hR hj c0, eL, if_pos c2, zo_s, zc_t, zl_0, zr_e, z_0, z_1, if_true]
    · simp only [fn_X4_has, if_neg c1, cg_28_1 hR hj c0, cl_29a hR hj c0, eL, if_neg c2, zo_s, zc_t, zl_0, zr_e, z_0, z_1, if_true]
theorem cs_ros (hR : mz_Rp VB n m rs ad lv mk mm gi go gj h) {j L : Nat} (hj : j < 4) (hL : L ≤ 8) (e : rs.2.1 49 j = nI L) : mz_aR h (some (ad (27, 0, 0, 0))) 13 (nI j) = some (some (ad (28, j, 0, 0))) := by
  have c0 : 0 ≤ rs.2.1 49 j := by rw [e]; exact nI_pos' (by omega)
  rw [ca_27 hR, ix_nI hj (by omega), cl_nI (by omega)]
  simp only [if_true, if_pos (show j < 4 ∧ 0 ≤ rs.2.1 49 j from ⟨hj, c0⟩)]
theorem cs_ros0 (hR : mz_Rp VB n m rs ad lv mk mm gi go gj h) {j : Nat} (hj : j < 4) (e : rs.2.1 49 j = -1) : mz_aR h (some (ad (27, 0, 0, 0))) 13 (nI j) = some none := by
  have c0 : ¬ 0 ≤ rs.2.1 49 j := by rw [e]; decide
  rw [ca_27 hR, ix_nI hj (by omega), cl_nI (by omega)]
  simp only [if_true, if_neg (show ¬ (j < 4 ∧ 0 ≤ rs.2.1 49 j) from fun z => c0 z.2)]
end
theorem k_board {VB o q l : Nat} {rs : mz_RS} {h : mz_H} (H : mz_In VB o (l + 1) rs h) (x y : Int32) : mz_Ok VB o q l rs (fun h => fn_X11_board h (some o) x y) (fun h => fn_X12_board h (some q) x y) h := by
  refine ok_flt H (fun _ => rfl) (fun _ => rfl) (fun h1 H1 => ?_)
  clear H
  revert H1
  generalize mz_si rs 0 0 = rs
  clear h
  intro H
  generalize h1 = h at H ⊢
  obtain ⟨n, m, ad, lv, mk, mm, gi, go, gj, hR, w⟩ := id H
  obtain ⟨wc, wm, wo, wt, wl, wq, wa, wv⟩ := id w
  obtain rfl : ad (1, 0, 0, 0) = o := wa
  have hn40 := wc.1
  have hm60 := wo.1
  rcases li_no x with c1 | ⟨c1, c2, c3⟩ | ⟨j, hj, rfl, c1, c2, c3⟩
  · exact mz_Ok.same H (-1) (by simp only [cs_isList, if_pos c1, zo_s, zc_t, zl_0, zr_e, z_0, z_1, if_true]) (by simp only [rs_within, if_pos c1, zo_s, zc_t, zl_0, zr_e, z_0, z_1, if_true])
  · exact mz_Ok.same H (-1) (by simp only [cs_isList, if_neg c1, if_pos c2, zo_s, zc_t, zl_0, zr_e, z_0, z_1, if_true]) (by simp only [rs_within, if_neg c1, if_pos c3, zo_s, zc_t, zl_0, zr_e, z_0, z_1, if_true])
  rcases wl.1 j hj with e | ⟨L, hL, e⟩
  · have m1 : ¬ (0 : Int32) ≤ -1 := by decide
    refine ok_fail H 1 ?_ (fun sz => ?_)
    · simp only [cs_isList, if_neg c1, if_neg c2, if_neg one0, cg_1_7 hR, cs_ros0 hR hj e, zo_s, zc_t, zl_0, if_true]
    · simp only [rs_within, if_neg c1, if_neg c3, if_neg one0, rr_49, ra_49, ix_nI (show j < 4 by omega) (show 4 < 2 ^ 31 by omega), cl_nI (show j < 2 ^ 31 by omega), e, if_neg m1, zo_s, zc_t, zl_0, if_true]
  have c0 : 0 ≤ rs.2.1 49 j := by rw [e]; exact nI_pos' (by omega)
  have L0 := nI_pos' (show L < 2 ^ 31 by omega)
  rcases mz_no y (show L < 2 ^ 31 by omega) with hi | ⟨i, hi, rfl⟩
  · by_cases c4 : y < 0
    · refine ok_fail H 3 ?_ (fun sz => ?_)
      · simp only [cs_isList, if_neg c1, if_neg c2, if_neg one0, cg_1_7 hR, cs_ros hR hj hL e, if_neg smn, ci_28 hR hj c0, cs_has4 hR hj hL e, if_pos c4, zo_s, zc_t, zl_0, if_true]
      · simp only [rs_within, if_neg c1, if_neg c3, if_neg one0, rr_49, ra_49, ix_nI (show j < 4 by omega) (show 4 < 2 ^ 31 by omega), cl_nI (show j < 2 ^ 31 by omega), e, if_pos L0, if_pos c4, fn_X12_board_b45, zo_s, zc_t, zl_0, if_true]
    · have c5 := hi.resolve_left c4
      refine ok_fail H 3 ?_ (fun sz => ?_)
      · simp only [cs_isList, if_neg c1, if_neg c2, if_neg one0, cg_1_7 hR, cs_ros hR hj hL e, if_neg smn, ci_28 hR hj c0, cs_has4 hR hj hL e, if_neg c4, if_pos c5, zo_s, zc_t, zl_0, if_true]
      · simp only [rs_within, if_neg c1, if_neg c3, if_neg one0, rr_49, ra_49, ix_nI (show j < 4 by omega) (show 4 < 2 ^ 31 by omega), cl_nI (show j < 2 ^ 31 by omega), e, if_pos L0, if_neg c4, if_neg (Int32.not_lt.mpr c5), fn_X12_board_b45, zo_s, zc_t, zl_0, if_true]
  · have cL : (rs.2.1 49 j).toNatClampNeg = L := by rw [e, cl_nI (by omega)]
    refine mz_Ok.same H (rs.2.1 51 (8 * j + i)) ?_ ?_
    · simp only [cs_isList, if_neg c1, if_neg c2, if_neg one0, cg_1_7 hR, cs_ros hR hj hL e, if_neg smn, ci_28 hR hj c0, cs_has4 hR hj hL e, if_neg (nI_pos (show i < 2 ^ 31 by omega)), if_neg (nI_ge hi (show L < 2 ^ 31 by omega)), cg_28_1 hR hj c0, ca_29 hR hj c0, cL, ix_nI hi (show L < 2 ^ 31 by omega), cl_nI (show i < 2 ^ 31 by omega), if_pos hi, zo_s, zc_t, zl_0, zr_e, z_0, z_1, if_true]
    · simp only [rs_within, if_neg c1, if_neg c3, if_neg one0, rr_49, ra_49, rr_51, ra_51, ix_nI (show j < 4 by omega) (show 4 < 2 ^ 31 by omega), cl_nI (show j < 2 ^ 31 by omega), e, if_pos L0, if_neg (nI_pos (show i < 2 ^ 31 by omega)), if_pos (nI_lt hi (show L < 2 ^ 31 by omega)), l8, ix_nI (show 8 * j + i < 32 by omega) (show 32 < 2 ^ 31 by omega), cl_nI (show 8 * j + i < 2 ^ 31 by omega), zo_s, zc_t, zl_0, zr_e, z_0, z_1, if_true]
/-- whether list j takes class c -/
def li_tk (rs : mz_RS) (j c : Nat) : Int32 := if rs.2.1 50 j = 0 then 1 else if rs.2.1 50 j = 1 then (if rs.2.1 3 c = 0 then 1 else if rs.2.1 3 c = 3 then 1 else 0) else if rs.2.1 3 c = 4 then 1 else if rs.2.1 3 c = 5 then 1 else 0
theorem z_b (v : Int32) (h : v = 0 ∨ v = 1) : (v &&& 1 == v) = true := by rcases h with rfl | rfl <;> decide
theorem b_if {P Q : Prop} [Decidable P] [Decidable Q] : (if P then (1 : Int32) else if Q then 1 else 0) = 0 ∨ (if P then (1 : Int32) else if Q then 1 else 0) = 1 := by
  split
  · exact Or.inr rfl
  · split
    · exact Or.inr rfl
    · exact Or.inl rfl
section
variable {VB : Nat} {n m : Nat} {rs : mz_RS} {ad : mz_T → Nat} {lv : Nat → Int32} {mk : Nat → Nat} {mm : Nat → Nat → Nat × Nat} {gi : Nat → Nat → Nat → Int32} {go : Nat → Nat → Option Nat} {gj : Nat → Nat → Int64} {h : mz_H}
theorem cs_takes (hR : mz_Rp VB n m rs ad lv mk mm gi go gj h) {j c : Nat} (hj : j < 4) (c0 : 0 ≤ rs.2.1 49 j) (hc : c < n) : fn_X4_takesType h (some (ad (28, j, 0, 0))) (some (ad (6, c, 0, 0))) = some (li_tk rs j c, h, 0, 0) := by
  unfold li_tk
  by_cases a1 : rs.2.1 50 j = 0
  · simp only [fn_X4_takesType, cg_28_0 hR hj c0, if_pos a1, zo_s, zc_t, zl_0, zr_e, z_0, z_1, if_true]
  by_cases a2 : rs.2.1 50 j = 1
  · simp only [fn_X4_takesType, cg_28_0 hR hj c0, if_neg a1, if_pos a2, ci_6 hR hc, cs_plain hR hc, z_b _ b_if, zo_s, zc_t, zl_0, zr_e, z_0, z_1, if_true]
  by_cases a3 : rs.2.1 3 c = 4
  · simp only [fn_X4_takesType, cg_28_0 hR hj c0, if_neg a1, if_neg a2, cg_6_0 hR hc, if_pos a3, fn_X4_takesType_b38, zo_s, zc_t, zl_0, zr_e, z_0, z_1, if_true]
  by_cases a4 : rs.2.1 3 c = 5
  · simp only [fn_X4_takesType, cg_28_0 hR hj c0, if_neg a1, if_neg a2, cg_6_0 hR hc, if_neg a3, if_pos a4, fn_X4_takesType_b38, zo_s, zc_t, zl_0, zr_e, z_0, z_1, if_true]
  · simp only [fn_X4_takesType, cg_28_0 hR hj c0, if_neg a1, if_neg a2, cg_6_0 hR hc, if_neg a3, if_neg a4, zo_s, zc_t, zl_0, zr_e, z_0, z_1, if_true]
theorem rs_takes (q sz : Nat) {j c : Nat} (hj : j < 4) (hc : c < 40) : fn_X12_takes (mz_RH q sz rs) (some q) (nI j) (nI c) = some (li_tk rs j c, mz_RH q sz rs, 0, 0) := by
  unfold li_tk
  have n9 := nI_ne9 (show c < 2 ^ 31 by omega)
  by_cases a1 : rs.2.1 50 j = 0
  · simp only [fn_X12_takes, if_neg n9, rr_50, ra_50, ix_nI (show j < 4 by omega) (show 4 < 2 ^ 31 by omega), cl_nI (show j < 2 ^ 31 by omega), if_pos a1, zo_s, zc_t, zl_0, zr_e, z_0, z_1, if_true]
  by_cases a2 : rs.2.1 50 j = 1
  · simp only [fn_X12_takes, if_neg n9, rr_50, ra_50, ix_nI (show j < 4 by omega) (show 4 < 2 ^ 31 by omega), cl_nI (show j < 2 ^ 31 by omega), if_neg a1, if_pos a2, mz_RH_is, rs_concrete q sz hc, z_b _ b_if, zo_s, zc_t, zl_0, zr_e, z_0, z_1, if_true]
  by_cases a3 : rs.2.1 3 c = 4
  · simp only [fn_X12_takes, if_neg n9, rr_50, ra_50, rr_3, ra_3, ix_nI (show j < 4 by omega) (show 4 < 2 ^ 31 by omega), cl_nI (show j < 2 ^ 31 by omega), ix_nI (show c < 40 by omega) (show 40 < 2 ^ 31 by omega), cl_nI (show c < 2 ^ 31 by omega), if_neg a1, if_neg a2, if_pos a3, fn_X12_takes_b55, zo_s, zc_t, zl_0, zr_e, z_0, z_1, if_true]
  by_cases a4 : rs.2.1 3 c = 5
  · simp only [fn_X12_takes, if_neg n9, rr_50, ra_50, rr_3, ra_3, ix_nI (show j < 4 by omega) (show 4 < 2 ^ 31 by omega), cl_nI (show j < 2 ^ 31 by omega), ix_nI (show c < 40 by omega) (show 40 < 2 ^ 31 by omega), cl_nI (show c < 2 ^ 31 by omega), if_neg a1, if_neg a2, if_neg a3, if_pos a4, fn_X12_takes_b55, zo_s, zc_t, zl_0, zr_e, z_0, z_1, if_true]
  · simp only [fn_X12_takes, if_neg n9, rr_50, ra_50, rr_3, ra_3, ix_nI (show j < 4 by omega) (show 4 < 2 ^ 31 by omega), cl_nI (show j < 2 ^ 31 by omega), ix_nI (show c < 40 by omega) (show 40 < 2 ^ 31 by omega), cl_nI (show c < 2 ^ 31 by omega), if_neg a1, if_neg a2, if_neg a3, if_neg a4, zo_s, zc_t, zl_0, zr_e, z_0, z_1, if_true]
theorem cw_stand (hR : mz_Rp VB n m rs ad lv mk mm gi go gj h) {j L i : Nat} (hj : j < 4) (hL : L ≤ 8) (wl : mz_wl n rs) (e : rs.2.1 49 j = nI L) (hi : i < L) (v : Int32) : ∃ h', mz_sI h (some (ad (29, j, 0, 0))) 0 (nI i) v = some h' ∧ mz_Rp VB n m (mz_sa rs 51 (8 * j + i) v) ad lv mk mm gi go gj h' ∧ h'.2 = h.2 := by
  have c0 : 0 ≤ rs.2.1 49 j := by rw [e]; exact nI_pos' (by omega)
  have cL : (rs.2.1 49 j).toNatClampNeg = L := by rw [e, cl_nI (by omega)]
  refine ⟨_, sI_of (cc_29 hR hj c0) (by rw [cL]; exact ix_nI hi (by omega)), hR.up 29 j 0 0 (Or.inl ?_) (cb_29 hR hj c0) ?_, rfl⟩
  · show mz_f29 n m (mz_sa rs 51 (8 * j + i) v) ad lv mk mm gi go gj j 0 0 = _
    have c0' : 0 ≤ (mz_sa rs 51 (8 * j + i) v).2.1 49 j := c0
    have cL' : ((mz_sa rs 51 (8 * j + i) v).2.1 49 j).toNatClampNeg = L := cL
    rw [mz_f29, if_pos ⟨hj, c0', rfl, rfl⟩, cl_nI (by omega), cL, cL']
    refine congrArg (fun f => some (Sum.inl (0, L, Sum.inl f))) (funext fun k => ?_)
    by_cases hk : k = i
    · subst hk
      simp [mz_sa, upd, hi]
    · have : ¬ 8 * j + k = 8 * j + i := by omega
      simp [mz_sa, upd, hk, this]
  · apply mz_hs <;> first | (exact fun _ _ _ _ => Or.inl rfl) | skip
    intro i' j' k' hne
    refine Or.inl ?_
    unfold mz_f29
    by_cases hq : i' < 4 ∧ 0 ≤ rs.2.1 49 i' ∧ j' = 0 ∧ k' = 0
    · have hq' : i' < 4 ∧ 0 ≤ (mz_sa rs 51 (8 * j + i) v).2.1 49 i' ∧ j' = 0 ∧ k' = 0 := hq
      rw [if_pos hq, if_pos hq']
      refine congrArg (fun f => some (Sum.inl (0, (rs.2.1 49 i').toNatClampNeg, Sum.inl f))) (funext fun k => ?_)
      have hic : i' ≠ j := fun e => hne ⟨rfl, e, hq.2.2.1, hq.2.2.2⟩
      show (if k < (rs.2.1 49 i').toNatClampNeg then upd (rs.2.1 51) (8 * j + i) v (8 * i' + k) else 0) = _
      by_cases hk : k < (rs.2.1 49 i').toNatClampNeg
      · by_cases h8 : k < 8
        · rw [pk_un (show ¬ 8 * i' + k = 8 * j + i by omega)]
        · rcases wl.1 i' hq.1 with q | ⟨L', hL', q⟩
          · rw [q] at hq
            exact absurd hq.2.1 (by decide)
          · rw [q, cl_nI (by omega)] at hk
            omega
      · rw [if_neg hk, if_neg hk]
    · have hq' : ¬ (i' < 4 ∧ 0 ≤ (mz_sa rs 51 (8 * j + i) v).2.1 49 i' ∧ j' = 0 ∧ k' = 0) := hq
      rw [if_neg hq, if_neg hq']
end
theorem i41 : ¬ (1 : Int32) = -9 := by decide
theorem ok_stand {VB q l : Nat} {rs : mz_RS} {h : mz_H} {n m : Nat} {ad : mz_T → Nat} {lv : Nat → Int32} {mk : Nat → Nat} {mm : Nat → Nat → Nat × Nat} {gi : Nat → Nat → Nat → Int32} {go : Nat → Nat → Option Nat} {gj : Nat → Nat → Int64} (hR : mz_Rp VB n m rs ad lv mk mm gi go gj h) (w : mz_wc n rs lv ∧ mz_wm n rs mk mm ∧ mz_wo n m rs ∧ mz_wt0 rs gi go ∧ mz_wl n rs ∧ mz_wq rs gj ∧ ad (1, 0, 0, 0) = ad (1, 0, 0, 0) ∧ h.2 + 40 * (l + 1) + 1100 * (60 - m) ≤ VB) {j L i : Nat} (hj : j < 4) (hL : L ≤ 8) (e : rs.2.1 49 j = nI L) (hi : i < L) (v : Int32) {fx fm : mz_H → mz_Res Int32} (hx : fx h = fn_X11_stand_b90 h (nI i) v (some (ad (28, j, 0, 0)))) (hm : ∀ sz, fm (mz_RH q sz rs) = mz_op (mz_fR (mz_RH q sz rs) (some q) 11 51) fun v6 => mz_op (mz_sI (mz_RH q sz rs) v6 0 ((8 * nI j) + nI i) v) fun h => mz_ret 1 h) : mz_Ok VB (ad (1, 0, 0, 0)) q l rs fx fm h := by
  obtain ⟨w1, w2, w3, w4, w5, w6, w7, w8⟩ := w
  have c0 : 0 ≤ rs.2.1 49 j := by rw [e]; exact nI_pos' (by omega)
  obtain ⟨h1, e1, R1, s1⟩ := cw_stand hR hj hL w5 e hi v
  refine ⟨1, h1, 0, 0, mz_sa rs 51 (8 * j + i) v, ?_, ?_, ⟨n, m, ad, lv, mk, mm, gi, go, gj, R1, w1, w2, w3, w4, w5, w6, rfl, by omega⟩, Nat.le_of_eq s1.symm, Nat.le_refl _, by omega, by omega⟩
  · rw [hx]
    simp only [fn_X11_stand_b90, cg_28_1 hR hj c0, e1, zo_s, zc_t, zl_0, zr_e, z_0, z_1, if_true]
  · rw [hm]
    simp only [rr_51, rw_51, l8, ix_nI (show 8 * j + i < 32 by omega) (show 32 < 2 ^ 31 by omega), cl_nI (show 8 * j + i < 2 ^ 31 by omega), zo_s, zc_t, zl_0, zr_e, z_0, z_1, if_true]
theorem k_stand {VB o q l : Nat} {rs : mz_RS} {h : mz_H} (H : mz_In VB o (l + 1) rs h) (x y z : Int32) : mz_Ok VB o q l rs (fun h => fn_X11_stand h (some o) x y z) (fun h => fn_X12_stand h (some q) x y z) h := by
  refine ok_flt H (fun _ => rfl) (fun _ => rfl) (fun h1 H1 => ?_)
  clear H
  revert H1
  generalize mz_si rs 0 0 = rs
  clear h
  intro H
  generalize h1 = h at H ⊢
  obtain ⟨n, m, ad, lv, mk, mm, gi, go, gj, hR, w⟩ := id H
  obtain ⟨wc, wm, wo, wt, wl, wq, wa, wv⟩ := id w
  obtain rfl : ad (1, 0, 0, 0) = o := wa
  have hn40 := wc.1
  have hm60 := wo.1
  obtain ⟨vt, hvt⟩ : ∃ vt, fn_X10_typeOf h (some (ad (2, 0, 0, 0))) z = some (vt, h, 0, 0) := by
    rcases mz_no z (show n < 2 ^ 31 by omega) with hz | ⟨c, hc, rfl⟩
    · exact ⟨none, cs_typeOf_no hR hz⟩
    · exact ⟨_, cs_typeOf hR wc.1 hc⟩
  rcases li_no x with c1 | ⟨c1, c2, c3⟩ | ⟨j, hj, rfl, c1, c2, c3⟩
  · exact mz_Ok.same H (-1) (by simp only [cg_1_0 hR, ci_2 hR, hvt, cs_isList, if_pos c1, zo_s, zc_t, zl_0, zr_e, z_0, z_1, if_true]) (by simp only [rs_within, if_pos c1, zo_s, zc_t, zl_0, zr_e, z_0, z_1, if_true])
  · exact mz_Ok.same H (-1) (by simp only [cg_1_0 hR, ci_2 hR, hvt, cs_isList, if_neg c1, if_pos c2, zo_s, zc_t, zl_0, zr_e, z_0, z_1, if_true]) (by simp only [rs_within, if_neg c1, if_pos c3, zo_s, zc_t, zl_0, zr_e, z_0, z_1, if_true])
  have B : vt = none ∧ ¬ z = -9 ∧ (z < 0 ∨ nI n ≤ z) ∨ (fn_X10_typeOf h (some (ad (2, 0, 0, 0))) z = some (vt, h, 0, 0) ∧ (vt = none ∧ z = -9 ∨ ∃ c, c < n ∧ z = nI c ∧ vt = some (ad (6, c, 0, 0)))) := by
    rcases mz_no z (show n < 2 ^ 31 by omega) with hz | ⟨c, hc, rfl⟩
    · rw [cs_typeOf_no hR hz] at hvt
      cases hvt
      by_cases c9 : z = -9
      · exact Or.inr ⟨cs_typeOf_no hR hz, Or.inl ⟨rfl, c9⟩⟩
      · exact Or.inl ⟨rfl, c9, hz⟩
    · have e := cs_typeOf hR wc.1 hc
      rw [e] at hvt
      cases hvt
      exact Or.inr ⟨e, Or.inr ⟨c, hc, rfl, rfl⟩⟩
  rcases B with ⟨rfl, c9, hz⟩ | ⟨-, B⟩
  · exact mz_Ok.same H (-1) (by simp only [cg_1_0 hR, ci_2 hR, hvt, cs_isList, if_neg c1, if_neg c2, if_neg one0, if_neg c9, zo_s, zc_t, zl_0, zr_e, z_0, z_1, if_true]) (by simp only [rs_within, if_neg c1, if_neg c3, if_neg one0, if_neg c9, mz_RH_is, rs_isClass_no q h.2 wc.2.1 hz, zo_s, zc_t, zl_0, zr_e, z_0, z_1, if_true])
  have X : ∀ sz, mz_op (mz_pF (mz_RH q sz rs) (some q) 11 0 (Value.int 0)) (fun h => mz_ret 0 h) = mz_op (mz_pF (mz_RH q sz rs) (some q) 11 0 (Value.int 0)) (fun h => mz_ret (0 : Int32) h) := fun _ => rfl
  refine mz_Ok.cong (gx := fun h => fn_X11_stand_b35 h (some (ad (1, 0, 0, 0))) (nI j) y z vt) (gm := fun h => fn_X12_stand_b30 h (some q) (nI j) y z) ?_ (fun sz => ?_) ?_
  · rcases B with ⟨rfl, c9⟩ | ⟨c, hc, rfl, rfl⟩
    · simp only [cg_1_0 hR, ci_2 hR, hvt, cs_isList, if_neg c1, if_neg c2, if_neg one0, if_pos c9, zo_s, zc_t, zl_0, if_true]
    · simp only [cg_1_0 hR, ci_2 hR, hvt, cs_isList, if_neg c1, if_neg c2, if_neg one0, if_neg smn, zo_s, zc_t, zl_0, if_true]
  · rcases B with ⟨rfl, c9⟩ | ⟨c, hc, rfl, rfl⟩
    · simp only [rs_within, if_neg c1, if_neg c3, if_neg one0, if_pos c9, zo_s, zc_t, zl_0, if_true]
    · simp only [rs_within, if_neg c1, if_neg c3, if_neg one0, if_neg (nI_ne9 (show c < 2 ^ 31 by omega)), mz_RH_is, rs_isClass q sz wc.2.1 wc.1 hc, zo_s, zc_t, zl_0, if_true]
  rcases wl.1 j hj with e | ⟨L, hL, e⟩
  · have m1 : ¬ (0 : Int32) ≤ -1 := by decide
    refine ok_fail H 1 ?_ (fun sz => ?_)
    · simp only [fn_X11_stand_b35, cg_1_7 hR, cs_ros0 hR hj e, zo_s, zc_t, zl_0, if_true]
    · simp only [fn_X12_stand_b30, rr_49, ra_49, ix_nI (show j < 4 by omega) (show 4 < 2 ^ 31 by omega), cl_nI (show j < 2 ^ 31 by omega), e, if_neg m1, zo_s, zc_t, zl_0, if_true]
  have c0 : 0 ≤ rs.2.1 49 j := by rw [e]; exact nI_pos' (by omega)
  have L0 := nI_pos' (show L < 2 ^ 31 by omega)
  rcases mz_no y (show L < 2 ^ 31 by omega) with hi | ⟨i, hi, rfl⟩
  · by_cases c4 : y < 0
    · refine ok_fail H 3 ?_ (fun sz => ?_)
      · simp only [fn_X11_stand_b35, cg_1_7 hR, cs_ros hR hj hL e, if_neg smn, ci_28 hR hj c0, cs_has4 hR hj hL e, if_pos c4, zo_s, zc_t, zl_0, if_true]
      · simp only [fn_X12_stand_b30, rr_49, ra_49, ix_nI (show j < 4 by omega) (show 4 < 2 ^ 31 by omega), cl_nI (show j < 2 ^ 31 by omega), e, if_pos L0, if_pos c4, fn_X12_stand_b59, zo_s, zc_t, zl_0, if_true]
    · have c5 := hi.resolve_left c4
      refine ok_fail H 3 ?_ (fun sz => ?_)
      · simp only [fn_X11_stand_b35, cg_1_7 hR, cs_ros hR hj hL e, if_neg smn, ci_28 hR hj c0, cs_has4 hR hj hL e, if_neg c4, if_pos c5, zo_s, zc_t, zl_0, if_true]
      · simp only [fn_X12_stand_b30, rr_49, ra_49, ix_nI (show j < 4 by omega) (show 4 < 2 ^ 31 by omega), cl_nI (show j < 2 ^ 31 by omega), e, if_pos L0, if_neg c4, if_neg (Int32.not_lt.mpr c5), fn_X12_stand_b59, zo_s, zc_t, zl_0, if_true]
  have i0 := nI_pos (show i < 2 ^ 31 by omega)
  rcases B with ⟨rfl, rfl⟩ | ⟨c, hc, rfl, rfl⟩
  · refine ok_stand hR w hj hL e hi (-9) ?_ (fun sz => ?_)
    · simp only [fn_X11_stand_b35, cg_1_7 hR, cs_ros hR hj hL e, if_neg smn, ci_28 hR hj c0, cs_has4 hR hj hL e, if_neg i0, if_neg (nI_ge hi (show L < 2 ^ 31 by omega)), if_neg one0, zo_s, zc_t, zl_0, if_true]
    · simp only [fn_X12_stand_b30, rr_49, ra_49, ix_nI (show j < 4 by omega) (show 4 < 2 ^ 31 by omega), cl_nI (show j < 2 ^ 31 by omega), e, if_pos L0, if_neg i0, if_pos (nI_lt hi (show L < 2 ^ 31 by omega)), mz_RH_is, fn_X12_takes, if_neg one0, zo_s, zc_t, zl_0, zr_e, z_1, if_true]
  · by_cases tk : li_tk rs j c = 0
    · refine ok_fail H 4 ?_ (fun sz => ?_)
      · simp only [fn_X11_stand_b35, cg_1_7 hR, cs_ros hR hj hL e, if_neg smn, ci_28 hR hj c0, cs_has4 hR hj hL e, if_neg i0, if_neg (nI_ge hi (show L < 2 ^ 31 by omega)), if_neg one0, cs_takes hR hj c0 hc, if_pos tk, zo_s, zc_t, zl_0, if_true]
      · simp only [fn_X12_stand_b30, rr_49, ra_49, ix_nI (show j < 4 by omega) (show 4 < 2 ^ 31 by omega), cl_nI (show j < 2 ^ 31 by omega), e, if_pos L0, if_neg i0, if_pos (nI_lt hi (show L < 2 ^ 31 by omega)), mz_RH_is, rs_takes q sz hj (show c < 40 by omega), if_pos tk, zo_s, zc_t, zl_0, if_true]
    · refine ok_stand hR w hj hL e hi (nI c) ?_ (fun sz => ?_)
      · simp only [fn_X11_stand_b35, cg_1_7 hR, cs_ros hR hj hL e, if_neg smn, ci_28 hR hj c0, cs_has4 hR hj hL e, if_neg i0, if_neg (nI_ge hi (show L < 2 ^ 31 by omega)), if_neg one0, cs_takes hR hj c0 hc, if_neg tk, zo_s, zc_t, zl_0, if_true]
      · simp only [fn_X12_stand_b30, rr_49, ra_49, ix_nI (show j < 4 by omega) (show 4 < 2 ^ 31 by omega), cl_nI (show j < 2 ^ 31 by omega), e, if_pos L0, if_neg i0, if_pos (nI_lt hi (show L < 2 ^ 31 by omega)), mz_RH_is, rs_takes q sz hj (show c < 40 by omega), if_neg tk, zo_s, zc_t, zl_0, if_true]
/-! the slot of a name -/
def mz_fs (rs : mz_RS) (a : Nat) (k : Int32) (r : Option Nat) : Prop := (r = none ∧ ∀ s, s < mz_sl rs a → ¬ rs.2.1 35 (16 * a + s) = k) ∨ ∃ s, r = some s ∧ s < mz_sl rs a ∧ rs.2.1 35 (16 * a + s) = k
def mz_fa (r : Option Nat) (c : Nat) : Int32 := match r with
  | none => -9
  | some s => if s < c then nI s else -9
def mz_fn : Option Nat → Int32
  | none => -9
  | some s => nI s
section
variable {VB : Nat} {n m : Nat} {rs : mz_RS} {ad : mz_T → Nat} {lv : Nat → Int32} {mk : Nat → Nat} {mm : Nat → Nat → Nat × Nat} {gi : Nat → Nat → Nat → Int32} {go : Nat → Nat → Option Nat} {gj : Nat → Nat → Int64} {h : mz_H}
theorem mz_fs.ex (rs : mz_RS) (a : Nat) (k : Int32) : ∃ r, mz_fs rs a k r := by
  by_cases hx : ∃ s, s < mz_sl rs a ∧ rs.2.1 35 (16 * a + s) = k
  · obtain ⟨s, h1, h2⟩ := hx
    exact ⟨some s, Or.inr ⟨s, rfl, h1, h2⟩⟩
  · exact ⟨none, Or.inl ⟨rfl, fun s h1 h2 => hx ⟨s, h1, h2⟩⟩⟩
theorem cs_slotNumber (hR : mz_Rp VB n m rs ad lv mk mm gi go gj h) (w : mz_wo n m rs) {a : Nat} (ha : a < m) {k : Int32} {r : Option Nat} (F : mz_fs rs a k r) : fn_X8_slotNumber h (some (ad (17, a, 0, 0))) k = some (mz_fn r, h, 0, 0) := by
  have h16 := (mz_sl_le w ha).1
  rcases F with ⟨rfl, hno⟩ | ⟨s, rfl, hs, es⟩
  · have L : ∀ (d c f : Nat), c + d = mz_sl rs a → d < f → fn_X8_slotNumber_b2 f h (some (ad (17, a, 0, 0))) k (nI c) = some (-9, h, 0, 0) := by
      intro d
      induction d with
      | zero =>
        intro c f hc hf
        obtain ⟨g, rfl⟩ : ∃ g, f = g + 1 := ⟨f - 1, by omega⟩
        have h2 : Int32.ofNat (mz_sl rs a) ≤ nI c := nI_le (show mz_sl rs a ≤ c by omega) (by omega)
        simp only [fn_X8_slotNumber_b2, cg_17_1 hR ha, cl_18a hR ha, if_pos h2, zo_s, zc_t, zl_0, zr_e, z_0, z_1, if_true]
      | succ d ih =>
        intro c f hc hf
        obtain ⟨g, rfl⟩ : ∃ g, f = g + 1 := ⟨f - 1, by omega⟩
        have I := ih (c + 1) g (by omega) (by omega)
        rw [show nI (c + 1) = nI c + 1 from (nI_add c 1).symm] at I
        have hcs : c < mz_sl rs a := by omega
        have h2 : ¬ Int32.ofNat (mz_sl rs a) ≤ nI c := nI_ge hcs (by omega)
        simp only [fn_X8_slotNumber_b2, cg_17_1 hR ha, cl_18a hR ha, if_neg h2, ca_18 hR ha, ix_nI hcs (show mz_sl rs a < 2 ^ 31 by omega), cl_nI (show c < 2 ^ 31 by omega), if_pos hcs, cg_19_0 hR ha hcs, if_neg (hno c hcs), I, zo_s, if_true]
    exact L (mz_sl rs a) 0 1001 (by omega) (by omega)
  · have L : ∀ (d c f : Nat), c + d = s → d < f → fn_X8_slotNumber_b2 f h (some (ad (17, a, 0, 0))) k (nI c) = some (nI s, h, 0, 0) := by
      intro d
      induction d with
      | zero =>
        intro c f hc hf
        obtain ⟨g, rfl⟩ : ∃ g, f = g + 1 := ⟨f - 1, by omega⟩
        obtain rfl : c = s := by omega
        have h2 : ¬ Int32.ofNat (mz_sl rs a) ≤ nI c := nI_ge hs (by omega)
        simp only [fn_X8_slotNumber_b2, cg_17_1 hR ha, cl_18a hR ha, if_neg h2, ca_18 hR ha, ix_nI hs (show mz_sl rs a < 2 ^ 31 by omega), cl_nI (show c < 2 ^ 31 by omega), if_pos hs, cg_19_0 hR ha hs, if_pos es, zo_s, zc_t, zl_0, zr_e, z_0, z_1, if_true]
      | succ d ih =>
        intro c f hc hf
        obtain ⟨g, rfl⟩ : ∃ g, f = g + 1 := ⟨f - 1, by omega⟩
        have I := ih (c + 1) g (by omega) (by omega)
        rw [show nI (c + 1) = nI c + 1 from (nI_add c 1).symm] at I
        have hcs : c < mz_sl rs a := by omega
        have h2 : ¬ Int32.ofNat (mz_sl rs a) ≤ nI c := nI_ge hcs (by omega)
        have h3 : ¬ rs.2.1 35 (16 * a + c) = k := fun e => by
          have := w.2.2.2.2.2.1 a c s ha hcs hs (e.trans es.symm)
          omega
        simp only [fn_X8_slotNumber_b2, cg_17_1 hR ha, cl_18a hR ha, if_neg h2, ca_18 hR ha, ix_nI hcs (show mz_sl rs a < 2 ^ 31 by omega), cl_nI (show c < 2 ^ 31 by omega), if_pos hcs, cg_19_0 hR ha hcs, if_neg h3, I, zo_s, if_true]
    exact L s 0 1001 (by omega) (by omega)
theorem rs_slotNo (q sz : Nat) (w : mz_wo n m rs) {a : Nat} (ha : a < m) {k : Int32} {r : Option Nat} (F : mz_fs rs a k r) : fn_X12_slotOf (mz_RH q sz rs) (some q) (nI a) k = some (mz_fn r, mz_RH q sz rs, 0, 0) := by
  have h16 := (mz_sl_le w ha).1
  have e34 := (mz_sl_le w ha).2
  have hm := w.1
  have L : ∀ (d c f : Nat), c + d = mz_sl rs a → d < f → fn_X12_slotOf_b6 f (mz_RH q sz rs) (some q) (nI a) k (mz_fa r c) (nI c) = some (mz_fn r, mz_RH q sz rs, 0, 0) := by
    intro d
    induction d with
    | zero =>
      intro c f hc hf
      obtain ⟨g, rfl⟩ : ∃ g, f = g + 1 := ⟨f - 1, by omega⟩
      have h2 : nI (mz_sl rs a) ≤ nI c := nI_le (show mz_sl rs a ≤ c by omega) (by omega)
      simp only [fn_X12_slotOf_b6, rr_34, ra_34, ix_nI (show a < 60 by omega) (show 60 < 2 ^ 31 by omega), cl_nI (show a < 2 ^ 31 by omega), e34, if_pos h2, zo_s, zc_t, zl_0, zr_e, z_0, z_1, if_true]
      rcases F with ⟨rfl, hno⟩ | ⟨s, rfl, hs, es⟩
      · rfl
      · simp only [mz_fa, if_pos (show s < c by omega)]
        rfl
    | succ d ih =>
      intro c f hc hf
      obtain ⟨g, rfl⟩ : ∃ g, f = g + 1 := ⟨f - 1, by omega⟩
      have I := ih (c + 1) g (by omega) (by omega)
      rw [show nI (c + 1) = nI c + 1 from (nI_add c 1).symm] at I
      have hcs : c < mz_sl rs a := by omega
      have h2 : ¬ nI (mz_sl rs a) ≤ nI c := nI_ge hcs (by omega)
      rcases F with ⟨rfl, hno⟩ | ⟨s, rfl, hs, es⟩
      · simp only [fn_X12_slotOf_b6, rr_34, ra_34, rr_35, ra_35, ix_nI (show a < 60 by omega) (show 60 < 2 ^ 31 by omega), cl_nI (show a < 2 ^ 31 by omega), e34, if_neg h2, l16, ix_nI (show 16 * a + c < 960 by omega) (show 960 < 2 ^ 31 by omega), cl_nI (show 16 * a + c < 2 ^ 31 by omega), if_neg (hno c hcs), fn_X12_slotOf_b39, mz_fa, zo_s, if_true]
        exact I
      · by_cases hcs2 : c = s
        · subst hcs2
          simp only [mz_fa, if_pos (show c < c + 1 by omega)] at I
          simp only [fn_X12_slotOf_b6, rr_34, ra_34, rr_35, ra_35, ix_nI (show a < 60 by omega) (show 60 < 2 ^ 31 by omega), cl_nI (show a < 2 ^ 31 by omega), e34, if_neg h2, l16, ix_nI (show 16 * a + c < 960 by omega) (show 960 < 2 ^ 31 by omega), cl_nI (show 16 * a + c < 2 ^ 31 by omega), if_pos es, fn_X12_slotOf_b39, mz_fa, zo_s, if_true, I]
        · have h3 : ¬ rs.2.1 35 (16 * a + c) = k := fun e => hcs2 (w.2.2.2.2.2.1 a c s ha hcs hs (e.trans es.symm))
          by_cases hlt : s < c
          · simp only [mz_fa, if_pos (show s < c + 1 by omega)] at I
            simp only [fn_X12_slotOf_b6, rr_34, ra_34, rr_35, ra_35, ix_nI (show a < 60 by omega) (show 60 < 2 ^ 31 by omega), cl_nI (show a < 2 ^ 31 by omega), e34, if_neg h2, l16, ix_nI (show 16 * a + c < 960 by omega) (show 960 < 2 ^ 31 by omega), cl_nI (show 16 * a + c < 2 ^ 31 by omega), if_neg h3, fn_X12_slotOf_b39, mz_fa, zo_s, if_true, if_pos hlt, I]
          · simp only [mz_fa, if_neg (show ¬ s < c + 1 by omega)] at I
            simp only [fn_X12_slotOf_b6, rr_34, ra_34, rr_35, ra_35, ix_nI (show a < 60 by omega) (show 60 < 2 ^ 31 by omega), cl_nI (show a < 2 ^ 31 by omega), e34, if_neg h2, l16, ix_nI (show 16 * a + c < 960 by omega) (show 960 < 2 ^ 31 by omega), cl_nI (show 16 * a + c < 2 ^ 31 by omega), if_neg h3, fn_X12_slotOf_b39, mz_fa, zo_s, if_true, if_neg hlt, I]
  have L0 := L (mz_sl rs a) 0 1001 (by omega) (by omega)
  have e9 : mz_fa r 0 = -9 := by
    cases r with
    | none => rfl
    | some s => simp only [mz_fa, if_neg (Nat.not_lt_zero s)]
  rw [e9] at L0
  exact L0
theorem cs_slotNamed (hR : mz_Rp VB n m rs ad lv mk mm gi go gj h) (w : mz_wo n m rs) {a : Nat} (ha : a < m) {k : Int32} {r : Option Nat} (F : mz_fs rs a k r) : fn_X8_slotNamed h (some (ad (17, a, 0, 0))) k = some (r.map (fun s => ad (19, a, s, 0)), h, 0, 0) := by
  have h16 := (mz_sl_le w ha).1
  have N := cs_slotNumber hR w ha F
  rcases F with ⟨rfl, hno⟩ | ⟨s, rfl, hs, es⟩
  · have : (-9 : Int32) < 0 := by decide
    simp only [fn_X8_slotNamed, ci_17 hR ha, N, mz_fn, fn_X8_slotAt, if_pos this, Option.map, zo_s, zc_t, zl_0, zr_e, z_0, z_1, if_true]
  · have h2 : ¬ Int32.ofNat (mz_sl rs a) ≤ nI s := nI_ge hs (by omega)
    simp only [fn_X8_slotNamed, ci_17 hR ha, N, mz_fn, fn_X8_slotAt, if_neg (nI_pos (show s < 2 ^ 31 by omega)), cg_17_1 hR ha, cl_18a hR ha, if_neg h2, ca_18 hR ha, ix_nI hs (show mz_sl rs a < 2 ^ 31 by omega), cl_nI (show s < 2 ^ 31 by omega), if_pos hs, Option.map, zo_s, zc_t, zl_0, zr_e, z_0, z_1, if_true]
end
theorem k_slot {VB o q l : Nat} {rs : mz_RS} {h : mz_H} (H : mz_In VB o (l + 1) rs h) (x k : Int32) : mz_Ok VB o q l rs (fun h => fn_X11_slot h (some o) x k) (fun h => fn_X12_slot h (some q) x k) h := by
  obtain ⟨n, m, ad, lv, mk, mm, gi, go, gj, hR, w⟩ := id H
  obtain ⟨wc, wm, wo, wt, wl, wq, wa, wv⟩ := id w
  obtain rfl : ad (1, 0, 0, 0) = o := wa
  have hn40 := wc.1
  have hm60 := wo.1
  rcases mz_no x (show m < 2 ^ 31 by omega) with hx | ⟨a, ha, rfl⟩
  · exact mz_Ok.same H (-1) (by simp only [fn_X11_slot, ci_1 hR, cs_thingOf_no hR hx, zo_s, zc_t, zl_0, zr_e, z_0, z_1, if_true]) (by simp only [fn_X12_slot, mz_RH_is, rs_isObject_no q h.2 wo.2.1 hx, zo_s, zc_t, zl_0, zr_e, z_0, z_1, if_true])
  obtain ⟨r, F⟩ := mz_fs.ex rs a k
  exact mz_Ok.same H (mz_fn r) (by simp only [fn_X11_slot, ci_1 hR, cs_thingOf hR wo.1 ha, if_neg smn, ci_17 hR ha, cs_slotNumber hR wo ha F, zo_s, zc_t, zl_0, zr_e, z_0, z_1, if_true]) (by simp only [fn_X12_slot, mz_RH_is, rs_isObject q h.2 wo.2.1 wo.1 ha, if_neg one0, rs_slotNo q h.2 wo ha F, zo_s, zc_t, zl_0, zr_e, z_0, z_1, if_true])

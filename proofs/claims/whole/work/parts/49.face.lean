/-! face -/
section
variable {VB : Nat} {n m : Nat} {rs : mz_RS} {ad : mz_T → Nat} {lv : Nat → Int32} {mk : Nat → Nat} {mm : Nat → Nat → Nat × Nat} {gi : Nat → Nat → Nat → Int32} {go : Nat → Nat → Option Nat} {gj : Nat → Nat → Int64} {h : mz_H}
theorem cw_guise (hR : mz_Rp VB n m rs ad lv mk mm gi go gj h) {c i : Nat} (hc : c < n) (hi : i < 3) (v : Int32) : ∃ h', mz_sI h (some (ad (7, c, 0, 0))) 0 (nI i) v = some h' ∧ mz_Rp VB n m (mz_sa rs 6 (3 * c + i) v) ad lv mk mm gi go gj h' ∧ h'.2 = h.2 := by
  refine ⟨_, sI_of (cc_7 hR hc) (ix_nI hi (by omega)), hR.up 7 c 0 0 (Or.inl ?_) (cb_7 hR hc) ?_, rfl⟩
  · show mz_f7 n m (mz_sa rs 6 (3 * c + i) v) ad lv mk mm gi go gj c 0 0 = _
    rw [mz_f7, if_pos ⟨hc, rfl, rfl⟩, cl_nI (by omega)]
    refine congrArg (fun f => some (Sum.inl (0, 3, Sum.inl f))) (funext fun k => ?_)
    by_cases hk : k = i
    · subst hk
      simp [mz_sa, upd, hi]
    · have : ¬ 3 * c + k = 3 * c + i := by omega
      simp [mz_sa, upd, hk, this]
  · apply mz_hs <;> first | (exact fun _ _ _ _ => Or.inl rfl) | skip
    intro i' j' k' hne
    refine Or.inl ?_
    unfold mz_f7
    by_cases hq : i' < n ∧ j' = 0 ∧ k' = 0
    · rw [if_pos hq, if_pos hq]
      refine congrArg (fun f => some (Sum.inl (0, 3, Sum.inl f))) (funext fun k => ?_)
      have hic : i' ≠ c := fun e => hne ⟨rfl, e, hq.2.1, hq.2.2⟩
      by_cases hk : k < 3
      · have : ¬ 3 * i' + k = 3 * c + i := by omega
        simp [mz_sa, upd, this]
      · simp [hk]
    · rw [if_neg hq, if_neg hq]
theorem cw_gcount (hR : mz_Rp VB n m rs ad lv mk mm gi go gj h) {c : Nat} (hc : c < n) (v : Int32) : ∃ h', mz_pF h (some (ad (6, c, 0, 0))) 8 4 (.int v) = some h' ∧ mz_Rp VB n m (mz_sa rs 5 c v) ad lv mk mm gi go gj h' ∧ h'.2 = h.2 := by
  refine ⟨_, pF_of (cc_6 hR hc) (lt_rfl rfl), hR.up 6 c 0 0 (Or.inl ?_) (cb_6 hR hc) ?_, rfl⟩
  · show mz_f6 n m (mz_sa rs 5 c v) ad lv mk mm gi go gj c 0 0 = _
    rw [mz_f6, if_pos ⟨hc, rfl, rfl⟩]
    rw [show (mz_sa rs 5 c v).2.1 5 c = v from pk_us]
    rfl
  · apply mz_hs <;> first | (exact fun _ _ _ _ => Or.inl rfl) | skip
    intro i' j' k' hne
    refine Or.inl ?_
    unfold mz_f6
    by_cases hq : i' < n ∧ j' = 0 ∧ k' = 0
    · rw [if_pos hq, if_pos hq]
      have hic : i' ≠ c := fun e => hne ⟨rfl, e, hq.2.1, hq.2.2⟩
      rw [show (mz_sa rs 5 c v).2.1 5 i' = rs.2.1 5 i' from pk_un hic]
      rfl
    · rw [if_neg hq, if_neg hq]
theorem wc_face (wc : mz_wc n rs lv) {c g d : Nat} (hc : c < n) (hd : d < n) (hg : g < 3) (e : rs.2.1 5 c = nI g) : mz_wc n (mz_sa (mz_sa rs 6 (3 * c + g) (nI d)) 5 c (nI (g + 1))) lv := by
  obtain ⟨a1, a2, a3, a4, a5, a6, a7, a8, a9, a10⟩ := wc
  refine ⟨a1, a2, a3, a4, a5, fun c' hc' => ?_, a7, fun c' hc' => ⟨?_, (a8 c' hc').2⟩, fun p hp => ⟨?_, (a9 p hp).2⟩, a10⟩
  · obtain ⟨g', hg', e', hd'⟩ := a6 c' hc'
    show ∃ g0, g0 ≤ 3 ∧ upd (rs.2.1 5) c (nI (g + 1)) c' = nI g0 ∧ ∀ i, i < g0 → ∃ d0, d0 < n ∧ upd (rs.2.1 6) (3 * c + g) (nI d) (3 * c' + i) = nI d0
    by_cases h : c' = c
    · subst h
      rw [pk_us]
      refine ⟨g + 1, by omega, rfl, fun i hi => ?_⟩
      by_cases hig : i = g
      · subst hig
        exact ⟨d, hd, pk_us⟩
      · rw [pk_un (by omega)]
        have hgg : g' = g := by
          rw [e'] at e
          have := congrArg Int32.toNatClampNeg e
          rw [cl_nI (by omega), cl_nI (by omega)] at this
          exact this
        exact hd' i (by omega)
    · rw [pk_un h]
      refine ⟨g', hg', e', fun i hi => ?_⟩
      rw [pk_un (by omega)]
      exact hd' i hi
  · show upd (rs.2.1 5) c (nI (g + 1)) c' = 0
    rw [pk_un (by omega)]
    exact (a8 c' hc').1
  · show upd (rs.2.1 6) (3 * c + g) (nI d) p = 0
    rw [pk_un (by omega)]
    exact (a9 p hp).1
theorem cs_hasGuise1 (hR : mz_Rp VB n m rs ad lv mk mm gi go gj h) {c g : Nat} (hc : c < n) (hg : g ≤ 3) (e : rs.2.1 5 c = nI g) (x : Int32) : ∀ (d i f : Nat), i + d = g → d < f → (∃ j, i ≤ j ∧ j < g ∧ rs.2.1 6 (3 * c + j) = x) → fn_X9_hasGuise_b2 f h (some (ad (6, c, 0, 0))) x (nI i) = some (1, h, 0, 0) := by
  intro d
  induction d with
  | zero =>
    rintro i f hi hf ⟨j, h1, h2, -⟩
    omega
  | succ d ih =>
    rintro i f hi hf ⟨j, h1, h2, h3⟩
    obtain ⟨f, rfl⟩ : ∃ g', f = g' + 1 := ⟨f - 1, by omega⟩
    have hle : ¬ nI g ≤ nI i := nI_ge (by omega) (by omega)
    by_cases hm : rs.2.1 6 (3 * c + i) = x
    · simp only [fn_X9_hasGuise_b2, cg_6_4 hR hc, e, if_neg hle, cg_6_3 hR hc, ca_7 hR hc, ix_nI (show i < 3 by omega) (show 3 < 2 ^ 31 by omega), cl_nI (show i < 2 ^ 31 by omega), if_pos (show i < 3 by omega), if_pos hm, zo_s, zc_t, zl_0, zr_e, z_0, z_1, if_true]
    · have I := ih (i + 1) f (by omega) (by omega) ⟨j, by
        rcases Nat.lt_or_ge i j with q | q
        · omega
        · exact absurd h3 (by rw [show j = i by omega]; exact hm), h2, h3⟩
      rw [show nI (i + 1) = nI i + 1 from (nI_add i 1).symm] at I
      simp only [fn_X9_hasGuise_b2, cg_6_4 hR hc, e, if_neg hle, cg_6_3 hR hc, ca_7 hR hc, ix_nI (show i < 3 by omega) (show 3 < 2 ^ 31 by omega), cl_nI (show i < 2 ^ 31 by omega), if_pos (show i < 3 by omega), if_neg hm, I, zo_s, if_true]
theorem cs_hasGuise0 (hR : mz_Rp VB n m rs ad lv mk mm gi go gj h) {c g : Nat} (hc : c < n) (hg : g ≤ 3) (e : rs.2.1 5 c = nI g) (x : Int32) (hno : ¬ ∃ j, j < g ∧ rs.2.1 6 (3 * c + j) = x) : ∀ (d i f : Nat), i + d = g → d < f → fn_X9_hasGuise_b2 f h (some (ad (6, c, 0, 0))) x (nI i) = some (0, h, 0, 0) := by
  intro d
  induction d with
  | zero =>
    intro i f hi hf
    obtain ⟨f, rfl⟩ : ∃ g', f = g' + 1 := ⟨f - 1, by omega⟩
    have hle : nI g ≤ nI i := nI_le (by omega) (by omega)
    simp only [fn_X9_hasGuise_b2, cg_6_4 hR hc, e, if_pos hle, zo_s, zc_t, zl_0, zr_e, z_0, z_1, if_true]
  | succ d ih =>
    intro i f hi hf
    obtain ⟨f, rfl⟩ : ∃ g', f = g' + 1 := ⟨f - 1, by omega⟩
    have hle : ¬ nI g ≤ nI i := nI_ge (by omega) (by omega)
    have hm : ¬ rs.2.1 6 (3 * c + i) = x := fun hm => hno ⟨i, by omega, hm⟩
    have I := ih (i + 1) f (by omega) (by omega)
    rw [show nI (i + 1) = nI i + 1 from (nI_add i 1).symm] at I
    simp only [fn_X9_hasGuise_b2, cg_6_4 hR hc, e, if_neg hle, cg_6_3 hR hc, ca_7 hR hc, ix_nI (show i < 3 by omega) (show 3 < 2 ^ 31 by omega), cl_nI (show i < 2 ^ 31 by omega), if_pos (show i < 3 by omega), if_neg hm, I, zo_s, if_true]
theorem rs_face1 (q sz : Nat) {c g : Nat} (hc : c < 40) (hg : g ≤ 3) (e : rs.2.1 5 c = nI g) (x : Int32) : ∀ (d i f : Nat) (acc : Int32), i + d = g → d < f → acc = 0 ∨ acc = 1 → (acc = 1 ∨ ∃ j, i ≤ j ∧ j < g ∧ rs.2.1 6 (3 * c + j) = x) → ∃ f', fn_X12_face_b23 f (mz_RH q sz rs) (some q) (nI c) x acc (nI i) = fn_X12_face_b23 (f' + 1) (mz_RH q sz rs) (some q) (nI c) x 1 (nI g) := by
  intro d
  induction d with
  | zero =>
    rintro i f acc hi hf ha (rfl | ⟨j, h1, h2, -⟩)
    · obtain ⟨f, rfl⟩ : ∃ g', f = g' + 1 := ⟨f - 1, by omega⟩
      exact ⟨f, by rw [show i = g by omega]⟩
    · omega
  | succ d ih =>
    intro i f acc hi hf ha hj
    obtain ⟨f, rfl⟩ : ∃ g', f = g' + 1 := ⟨f - 1, by omega⟩
    have hle : ¬ nI g ≤ nI i := nI_ge (by omega) (by omega)
    have o1 : acc ||| 1 = 1 := by rcases ha with rfl | rfl <;> decide
    have o0 : acc ||| 0 = acc := by rcases ha with rfl | rfl <;> decide
    by_cases hm : rs.2.1 6 (3 * c + i) = x
    · obtain ⟨f', I⟩ := ih (i + 1) f 1 (by omega) (by omega) (Or.inr rfl) (Or.inl rfl)
      rw [show nI (i + 1) = nI i + 1 from (nI_add i 1).symm] at I
      refine ⟨f', ?_⟩
      conv => lhs; rw [fn_X12_face_b23]
      simp only [rr_5, ra_5, rr_6, ra_6, ix_nI (show c < 40 by omega) (show 40 < 2 ^ 31 by omega), cl_nI (show c < 2 ^ 31 by omega), e, if_neg hle, l3, ix_nI (show 3 * c + i < 120 by omega) (show 120 < 2 ^ 31 by omega), cl_nI (show 3 * c + i < 2 ^ 31 by omega), if_pos hm, fn_X12_face_b55, o1, I, zo_s, if_true]
    · obtain ⟨f', I⟩ := ih (i + 1) f acc (by omega) (by omega) ha (by
        rcases hj with h | ⟨j, h1, h2, h3⟩
        · exact Or.inl h
        · refine Or.inr ⟨j, ?_, h2, h3⟩
          rcases Nat.lt_or_ge i j with q | q
          · omega
          · exact absurd h3 (by rw [show j = i by omega]; exact hm))
      rw [show nI (i + 1) = nI i + 1 from (nI_add i 1).symm] at I
      refine ⟨f', ?_⟩
      conv => lhs; rw [fn_X12_face_b23]
      simp only [rr_5, ra_5, rr_6, ra_6, ix_nI (show c < 40 by omega) (show 40 < 2 ^ 31 by omega), cl_nI (show c < 2 ^ 31 by omega), e, if_neg hle, l3, ix_nI (show 3 * c + i < 120 by omega) (show 120 < 2 ^ 31 by omega), cl_nI (show 3 * c + i < 2 ^ 31 by omega), if_neg hm, fn_X12_face_b55, o0, I, zo_s, if_true]
theorem rs_face0 (q sz : Nat) {c g : Nat} (hc : c < 40) (hg : g ≤ 3) (e : rs.2.1 5 c = nI g) (x : Int32) (hno : ¬ ∃ j, j < g ∧ rs.2.1 6 (3 * c + j) = x) : ∀ (d i f : Nat), i + d = g → d < f → ∃ f', fn_X12_face_b23 f (mz_RH q sz rs) (some q) (nI c) x 0 (nI i) = fn_X12_face_b23 (f' + 1) (mz_RH q sz rs) (some q) (nI c) x 0 (nI g) := by
  intro d
  induction d with
  | zero =>
    intro i f hi hf
    obtain ⟨f, rfl⟩ : ∃ g', f = g' + 1 := ⟨f - 1, by omega⟩
    exact ⟨f, by rw [show i = g by omega]⟩
  | succ d ih =>
    intro i f hi hf
    obtain ⟨f, rfl⟩ : ∃ g', f = g' + 1 := ⟨f - 1, by omega⟩
    have hle : ¬ nI g ≤ nI i := nI_ge (by omega) (by omega)
    have hm : ¬ rs.2.1 6 (3 * c + i) = x := fun hm => hno ⟨i, by omega, hm⟩
    have o0 : (0 : Int32) ||| 0 = 0 := by decide
    obtain ⟨f', I⟩ := ih (i + 1) f (by omega) (by omega)
    rw [show nI (i + 1) = nI i + 1 from (nI_add i 1).symm] at I
    refine ⟨f', ?_⟩
    conv => lhs; rw [fn_X12_face_b23]
    simp only [rr_5, ra_5, rr_6, ra_6, ix_nI (show c < 40 by omega) (show 40 < 2 ^ 31 by omega), cl_nI (show c < 2 ^ 31 by omega), e, if_neg hle, l3, ix_nI (show 3 * c + i < 120 by omega) (show 120 < 2 ^ 31 by omega), cl_nI (show 3 * c + i < 2 ^ 31 by omega), if_neg hm, fn_X12_face_b55, o0, I, zo_s, if_true]
end
/-- only the class has looked for a way -/
theorem mz_Ok.wayX {α : Type} {VB o q l : Nat} {rs : mz_RS} {h : mz_H} {fx fm : mz_H → mz_Res α} (r : α) (h' : mz_H) (hx : fx h = some (r, h', 0, 0)) (hs : h'.2 = h.2) (hm : fm (mz_RH q h.2 rs) = some (r, mz_RH q h.2 rs, 0, 0)) (H : mz_In VB o (l + 1) (mz_wy rs (rs.1 17) (rs.2.1 16) (rs.2.1 18) (rs.2.1 19)) h') : mz_Ok VB o q l rs fx fm h :=
  mz_Ok.way r h' (rs.1 17) (rs.2.1 16) (rs.2.1 18) (rs.2.1 19) hx hs (by rw [← wy_id rs]; exact hm) H
theorem k_face {VB o q l : Nat} {rs : mz_RS} {h : mz_H} (H : mz_In VB o (l + 1) rs h) (x y : Int32) : mz_Ok VB o q l rs (fun h => fn_X11_face h (some o) x y) (fun h => fn_X12_face h (some q) x y) h := by
  obtain ⟨n, m, ad, lv, mk, mm, gi, go, gj, hR, w⟩ := id H
  obtain ⟨wc, wm, wo, wt, wl, wq, wa, wv⟩ := id w
  obtain rfl : ad (1, 0, 0, 0) = o := wa
  have hn40 := wc.1
  have hm60 := wo.1
  rcases mz_no x (show n < 2 ^ 31 by omega) with hx | ⟨c, hc, rfl⟩
  · obtain ⟨vt, hvt⟩ : ∃ vt, fn_X10_typeOf h (some (ad (2, 0, 0, 0))) y = some (vt, h, 0, 0) := by
      rcases mz_no y (show n < 2 ^ 31 by omega) with hz | ⟨c, hc, rfl⟩
      · exact ⟨none, cs_typeOf_no hR hz⟩
      · exact ⟨_, cs_typeOf hR wc.1 hc⟩
    exact mz_Ok.same H (-1) (by simp only [fn_X11_face, cg_1_0 hR, ci_2 hR, cs_typeOf_no hR hx, hvt, zo_s, zc_t, zl_0, zr_e, z_0, z_1, if_true]) (by simp only [fn_X12_face, mz_RH_is, rs_isClass_no q h.2 wc.2.1 hx, zo_s, zc_t, zl_0, zr_e, z_0, z_1, if_true])
  rcases mz_no y (show n < 2 ^ 31 by omega) with hy | ⟨d, hd, rfl⟩
  · exact mz_Ok.same H (-1) (by simp only [fn_X11_face, cg_1_0 hR, ci_2 hR, cs_typeOf hR wc.1 hc, if_neg smn, cs_typeOf_no hR hy, zo_s, zc_t, zl_0, zr_e, z_0, z_1, if_true]) (by simp only [fn_X12_face, mz_RH_is, rs_isClass q h.2 wc.2.1 wc.1 hc, if_neg one0, rs_isClass_no q h.2 wc.2.1 hy, zo_s, zc_t, zl_0, zr_e, z_0, z_1, if_true])
  obtain ⟨g, hg3, e5, eg⟩ := wc.2.2.2.2.2.1 c hc
  have rc := fun z => rs_isClass (rs := rs) q h.2 wc.2.1 wc.1 (j := z)
  have gg : nI g ≤ nI g := Int32.le_refl _
  have RF : ∀ sz, fn_X12_isClass (mz_RH q sz rs) (some q) (nI c) = some (1, mz_RH q sz rs, 0, 0) := fun sz => rs_isClass q sz wc.2.1 wc.1 hc
  by_cases f2 : rs.2.1 3 d = 2
  case neg =>
    refine mz_Ok.same H (-3) ?_ ?_
    · simp only [fn_X11_face, cg_1_0 hR, ci_2 hR, cs_typeOf hR wc.1 hc, cs_typeOf hR wc.1 hd, if_neg smn, cg_6_0 hR hd, if_neg f2, zo_s, zc_t, zl_0, zr_e, z_0, z_1, if_true]
    · by_cases hh : ∃ j, j < g ∧ rs.2.1 6 (3 * c + j) = nI d
      · obtain ⟨j, h1, h2⟩ := hh
        obtain ⟨f', E⟩ := rs_face1 (rs := rs) q h.2 (show c < 40 by omega) hg3 e5 (nI d) g 0 1001 0 (by omega) (by omega) (Or.inl rfl) (Or.inr ⟨j, by omega, h1, h2⟩)
        simp only [fn_X12_face, mz_RH_is, rc c hc, rc d hd, if_neg one0, zc_t, zl_0]
        refine E.trans ?_
        simp only [fn_X12_face_b23, rr_5, ra_5, rr_3, ra_3, ix_nI (show c < 40 by omega) (show 40 < 2 ^ 31 by omega), cl_nI (show c < 2 ^ 31 by omega), ix_nI (show d < 40 by omega) (show 40 < 2 ^ 31 by omega), cl_nI (show d < 2 ^ 31 by omega), e5, if_pos gg, if_neg f2, zo_s, zc_t, zl_0, zr_e, z_0, z_1, if_true]
      · obtain ⟨f', E⟩ := rs_face0 (rs := rs) q h.2 (show c < 40 by omega) hg3 e5 (nI d) hh g 0 1001 (by omega) (by omega)
        simp only [fn_X12_face, mz_RH_is, rc c hc, rc d hd, if_neg one0, zc_t, zl_0]
        refine E.trans ?_
        simp only [fn_X12_face_b23, rr_5, ra_5, rr_3, ra_3, ix_nI (show c < 40 by omega) (show 40 < 2 ^ 31 by omega), cl_nI (show c < 2 ^ 31 by omega), ix_nI (show d < 40 by omega) (show 40 < 2 ^ 31 by omega), cl_nI (show d < 2 ^ 31 by omega), e5, if_pos gg, if_neg f2, zo_s, zc_t, zl_0, zr_e, z_0, z_1, if_true]
  obtain ⟨ws, T⟩ := wy_T_ex wc hd
  obtain ⟨h1, e1, C1⟩ := cs_isBelow wc hR.gw hd hc T
  obtain ⟨a, A, B, C, e2, w2⟩ := rs_isBelow (rs := rs) wc q h.2 (rs.1 17) (rs.2.1 16) (rs.2.1 18) (rs.2.1 19) hd hc T
  rw [← wy_id rs] at e2
  have s1 : h1.2 = h.2 := by obtain ⟨_, _, _, _, _, _, s⟩ := C1; exact s
  by_cases hh : ∃ j, j < g ∧ rs.2.1 6 (3 * c + j) = nI d
  · obtain ⟨j, j1, j2⟩ := hh
    refine mz_Ok.wayX (-3) h1 ?_ s1 ?_ (mz_In.way C1 _ _ _ _ w)
    · by_cases hw : c ∈ ws
      · simp only [fn_X11_face, cg_1_0 hR, ci_2 hR, cs_typeOf hR wc.1 hc, cs_typeOf hR wc.1 hd, if_neg smn, cg_6_0 hR hd, if_pos f2, e1, if_pos hw, if_neg one0, zo_s, zc_t, zl_0, zr_e, z_0, z_1, if_true]
      · obtain ⟨a0, A0, M0, R0, -⟩ := C1
        have HG : fn_X9_hasGuise h1 (some (ad (6, c, 0, 0))) (nI d) = some (1, h1, 0, 0) := cs_hasGuise1 R0 hc hg3 e5 (nI d) g 0 1001 (by omega) (by omega) ⟨j, by omega, j1, j2⟩
        simp only [fn_X11_face, cg_1_0 hR, ci_2 hR, cs_typeOf hR wc.1 hc, cs_typeOf hR wc.1 hd, if_neg smn, cg_6_0 hR hd, if_pos f2, e1, if_neg hw, ci_6 R0 hc, HG, if_neg one0, zo_s, zc_t, zl_0, zr_e, z_0, z_1, if_true]
    · obtain ⟨f', E⟩ := rs_face1 (rs := rs) q h.2 (show c < 40 by omega) hg3 e5 (nI d) g 0 1001 0 (by omega) (by omega) (Or.inl rfl) (Or.inr ⟨j, by omega, j1, j2⟩)
      simp only [fn_X12_face, mz_RH_is, rc c hc, rc d hd, if_neg one0, zc_t, zl_0]
      refine E.trans ?_
      simp only [fn_X12_face_b23, rr_5, ra_5, rr_3, ra_3, ix_nI (show c < 40 by omega) (show 40 < 2 ^ 31 by omega), cl_nI (show c < 2 ^ 31 by omega), ix_nI (show d < 40 by omega) (show 40 < 2 ^ 31 by omega), cl_nI (show d < 2 ^ 31 by omega), e5, if_pos gg, if_pos f2, if_neg one0, zo_s, zc_t, zl_0, zr_e, z_0, z_1, if_true]
  have RE : ∃ f', fn_X12_face (mz_RH q h.2 rs) (some q) (nI c) (nI d) = fn_X12_face_b23 (f' + 1) (mz_RH q h.2 rs) (some q) (nI c) (nI d) 0 (nI g) := by
    obtain ⟨f', E⟩ := rs_face0 (rs := rs) q h.2 (show c < 40 by omega) hg3 e5 (nI d) hh g 0 1001 (by omega) (by omega)
    refine ⟨f', ?_⟩
    simp only [fn_X12_face, mz_RH_is, rc c hc, rc d hd, if_neg one0, zc_t, zl_0]
    exact E
  obtain ⟨f', E⟩ := RE
  by_cases hw : c ∈ ws
  · refine mz_Ok.way (-3) h1 a A B C ?_ s1 ?_ (mz_In.way C1 _ _ _ _ w)
    · simp only [fn_X11_face, cg_1_0 hR, ci_2 hR, cs_typeOf hR wc.1 hc, cs_typeOf hR wc.1 hd, if_neg smn, cg_6_0 hR hd, if_pos f2, e1, if_pos hw, if_neg one0, zo_s, zc_t, zl_0, zr_e, z_0, z_1, if_true]
    · refine E.trans ?_
      simp only [fn_X12_face_b23, rr_5, ra_5, rr_3, ra_3, ix_nI (show c < 40 by omega) (show 40 < 2 ^ 31 by omega), cl_nI (show c < 2 ^ 31 by omega), ix_nI (show d < 40 by omega) (show 40 < 2 ^ 31 by omega), cl_nI (show d < 2 ^ 31 by omega), e5, if_pos gg, if_pos f2, mz_RH_is, e2, if_pos hw, if_neg one0, zo_s, zc_t, zl_0, zr_e, z_0, z_1, if_true]
  have HI := mz_In.way C1 a A B C w
  obtain ⟨a0, A0, M0, R0, w0, -, -⟩ := C1
  have HG : fn_X9_hasGuise h1 (some (ad (6, c, 0, 0))) (nI d) = some (0, h1, 0, 0) := cs_hasGuise0 R0 hc hg3 e5 (nI d) hh g 0 1001 (by omega) (by omega)
  have e5' : (mz_wy rs a A B C).2.1 5 c = nI g := e5
  by_cases g3 : g = 3
  · subst g3
    have n33 : ¬ nI 3 < 3 := by decide
    have n34 : nI 3 = 3 := rfl
    refine mz_Ok.way (-4) h1 a A B C ?_ s1 ?_ HI
    · simp only [fn_X11_face, cg_1_0 hR, ci_2 hR, cs_typeOf hR wc.1 hc, cs_typeOf hR wc.1 hd, if_neg smn, cg_6_0 hR hd, if_pos f2, e1, if_neg hw, ci_6 R0 hc, HG, cg_6_4 R0 hc, e5, if_neg n33, zo_s, zc_t, zl_0, zr_e, z_0, z_1, if_true]
    · refine E.trans ?_
      simp only [fn_X12_face_b23, rr_5, ra_5, rr_3, ra_3, ix_nI (show c < 40 by omega) (show 40 < 2 ^ 31 by omega), cl_nI (show c < 2 ^ 31 by omega), ix_nI (show d < 40 by omega) (show 40 < 2 ^ 31 by omega), cl_nI (show d < 2 ^ 31 by omega), e5, if_pos gg, if_pos f2, mz_RH_is, e2, if_neg hw, e5', if_pos n34, zo_s, zc_t, zl_0, zr_e, z_0, z_1, if_true]
  · have l3' : nI g < 3 := nI_lt (show g < 3 by omega) (show 3 < 2 ^ 31 by omega)
    have n3 : ¬ nI g = 3 := nI_ne g3 (by omega) (show 3 < 2 ^ 31 by omega)
    obtain ⟨h2, k2, R2, s2⟩ := cw_guise (R0.wy a A B C) hc (show g < 3 by omega) (nI d)
    obtain ⟨h3, k3, R3, s3⟩ := cw_gcount R2 hc (nI (g + 1))
    have eg1 : nI g + 1 = nI (g + 1) := nI_add g 1
    have g2 : mz_fI h2 (some (ad (6, c, 0, 0))) 8 4 = some (nI g) := by rw [cg_6_4 R2 hc]; exact congrArg some e5
    have g4 : mz_fI h3 (some (ad (6, c, 0, 0))) 8 4 = some (nI (g + 1)) := by rw [cg_6_4 R3 hc]; exact congrArg some pk_us
    have m5 : (mz_sa (mz_wy rs a A B C) 6 (3 * c + g) (nI d)).2.1 5 c = nI g := e5
    have m6 : (mz_sa (mz_sa (mz_wy rs a A B C) 6 (3 * c + g) (nI d)) 5 c (nI (g + 1))).2.1 5 c = nI (g + 1) := pk_us
    refine ⟨nI (g + 1), h3, 0, 0, mz_sa (mz_sa (mz_wy rs a A B C) 6 (3 * c + g) (nI d)) 5 c (nI (g + 1)), ?_, ?_, ?_, by omega, Nat.le_refl _, by omega, by omega⟩
    · simp only [fn_X11_face, cg_1_0 hR, ci_2 hR, cs_typeOf hR wc.1 hc, cs_typeOf hR wc.1 hd, if_neg smn, cg_6_0 hR hd, if_pos f2, e1, if_neg hw, ci_6 R0 hc, HG, cg_6_4 R0 hc, e5, if_pos l3', cg_6_3 R0 hc, k2, g2, eg1, k3, g4, zo_s, zc_t, zl_0, zr_e, z_0, z_1, if_true]
    · rw [s3, s2, s1]
      refine E.trans ?_
      simp only [fn_X12_face_b23, rr_5, ra_5, rr_3, ra_3, rr_6, rw_6, rw_5, ix_nI (show c < 40 by omega) (show 40 < 2 ^ 31 by omega), cl_nI (show c < 2 ^ 31 by omega), ix_nI (show d < 40 by omega) (show 40 < 2 ^ 31 by omega), cl_nI (show d < 2 ^ 31 by omega), e5, if_pos gg, if_pos f2, mz_RH_is, e2, if_neg hw, e5', if_neg n3, l3, ix_nI (show 3 * c + g < 120 by omega) (show 120 < 2 ^ 31 by omega), cl_nI (show 3 * c + g < 2 ^ 31 by omega), m5, eg1, m6, zo_s, zc_t, zl_0, zr_e, z_0, z_1, if_true]
    · exact ⟨n, m, ad, lv, mk, mm, mz_gw gi a0 A0 M0, go, gj, R3, wc_face (rs := mz_wy rs a A B C) wc hc hd (show g < 3 by omega) e5, wm, wo, wt, wl, wq, rfl, by omega⟩

/-! find -/
def mz_hk (rs : mz_RS) (p : Nat) (v : Int64) : Prop := ¬ (rs.2.1 38 p &&& 4) = 0 ∧ rs.2.1 37 p = 0 ∧ ¬ rs.2.1 36 p = 8 ∧ lg_cmp (rs.2.2 43 (900 * p)) v = 0
section
variable {VB : Nat} {n m : Nat} {rs : mz_RS} {ad : mz_T → Nat} {lv : Nat → Int32} {mk : Nat → Nat} {mm : Nat → Nat → Nat × Nat} {gi : Nat → Nat → Nat → Int32} {go : Nat → Nat → Option Nat} {gj : Nat → Nat → Int64} {h : mz_H}
/-- one slot's part in the class's search -/
theorem cs_key1 (hR : mz_Rp VB n m rs ad lv mk mm gi go gj h) (w : mz_wo n m rs) {o s : Nat} (ho : o < m) (hs : s < mz_sl rs o) (v : Int64) (f : Nat) : (mz_hk rs (16 * o + s) v → fn_X8_hasKey_b2 (f + 1) h (some (ad (17, o, 0, 0))) v (nI s) = some (1, h, 0, 0)) ∧ (¬ mz_hk rs (16 * o + s) v → fn_X8_hasKey_b2 (f + 1) h (some (ad (17, o, 0, 0))) v (nI s) = fn_X8_hasKey_b2 f h (some (ad (17, o, 0, 0))) v (nI s + 1)) := by
  have h16 := (mz_sl_le w ho).1
  have hle : ¬ Int32.ofNat (mz_sl rs o) ≤ nI s := nI_ge hs (by omega)
  by_cases c1 : (rs.2.1 38 (16 * o + s) &&& 4) = 0
  · refine ⟨fun k => absurd c1 k.1, fun _ => ?_⟩
    simp only [fn_X8_hasKey_b2, cg_17_1 hR ho, cl_18a hR ho, if_neg hle, ca_18 hR ho, ix_nI hs (show mz_sl rs o < 2 ^ 31 by omega), cl_nI (show s < 2 ^ 31 by omega), if_pos hs, cg_19_3 hR ho hs, if_pos c1, fn_X8_hasKey_b51, fn_X8_hasKey_b52, fn_X8_hasKey_b73, zo_s, if_true]
  by_cases c2 : rs.2.1 37 (16 * o + s) = 0
  case neg =>
    refine ⟨fun k => absurd k.2.1 c2, fun _ => ?_⟩
    simp only [fn_X8_hasKey_b2, cg_17_1 hR ho, cl_18a hR ho, if_neg hle, ca_18 hR ho, ix_nI hs (show mz_sl rs o < 2 ^ 31 by omega), cl_nI (show s < 2 ^ 31 by omega), if_pos hs, cg_19_3 hR ho hs, if_neg c1, cg_19_2 hR ho hs, if_neg c2, fn_X8_hasKey_b51, fn_X8_hasKey_b52, fn_X8_hasKey_b73, zo_s, if_true]
  by_cases c3 : rs.2.1 36 (16 * o + s) = 8
  · refine ⟨fun k => absurd c3 k.2.2.1, fun _ => ?_⟩
    simp only [fn_X8_hasKey_b2, cg_17_1 hR ho, cl_18a hR ho, if_neg hle, ca_18 hR ho, ix_nI hs (show mz_sl rs o < 2 ^ 31 by omega), cl_nI (show s < 2 ^ 31 by omega), if_pos hs, cg_19_3 hR ho hs, if_neg c1, cg_19_2 hR ho hs, if_pos c2, cg_19_1 hR ho hs, if_pos c3, fn_X8_hasKey_b51, fn_X8_hasKey_b52, fn_X8_hasKey_b73, zo_s, if_true]
  obtain ⟨h9, h40⟩ := (w.2.2.2.1 o s ho hs).2.2.2.2.2 c2
  have hrl : mz_rl rs (16 * o + s) = 1 := by unfold mz_rl; rw [h40]; rfl
  have n2 : ¬ rs.2.1 37 (16 * o + s) = 2 := by rw [c2]; decide
  have P : mz_PC rs o s 0 0 0 (21, o, s, 0) 0 (900 * (16 * o + s)) := Or.inr (Or.inr (Or.inl ⟨h9, n2, rfl, by omega, rfl, rfl, rfl⟩))
  by_cases c4 : lg_cmp (rs.2.2 43 (900 * (16 * o + s))) v = 0
  · refine ⟨fun _ => ?_, fun k => absurd ⟨c1, c2, c3, c4⟩ k⟩
    simp only [fn_X8_hasKey_b2, cg_17_1 hR ho, cl_18a hR ho, if_neg hle, ca_18 hR ho, ix_nI hs (show mz_sl rs o < 2 ^ 31 by omega), cl_nI (show s < 2 ^ 31 by omega), if_pos hs, cg_19_3 hR ho hs, if_neg c1, cg_19_2 hR ho hs, if_pos c2, cg_19_1 hR ho hs, if_neg c3, fn_X8_hasKey_b52, if_neg one0, ci_19 hR ho hs, cs_cellAt hR w ho hs P, if_pos c4, zo_s, zc_t, zl_0, zr_e, z_0, z_1, if_true]
  · refine ⟨fun k => absurd k.2.2.2 c4, fun _ => ?_⟩
    simp only [fn_X8_hasKey_b2, cg_17_1 hR ho, cl_18a hR ho, if_neg hle, ca_18 hR ho, ix_nI hs (show mz_sl rs o < 2 ^ 31 by omega), cl_nI (show s < 2 ^ 31 by omega), if_pos hs, cg_19_3 hR ho hs, if_neg c1, cg_19_2 hR ho hs, if_pos c2, cg_19_1 hR ho hs, if_neg c3, fn_X8_hasKey_b52, if_neg one0, ci_19 hR ho hs, cs_cellAt hR w ho hs P, if_neg c4, fn_X8_hasKey_b73, zo_s, zc_t, zl_0, if_true]
theorem cs_key (hR : mz_Rp VB n m rs ad lv mk mm gi go gj h) (w : mz_wo n m rs) {o : Nat} (ho : o < m) (v : Int64) : ∀ (d s f : Nat), s + d = mz_sl rs o → d < f → ((∃ t, s ≤ t ∧ t < mz_sl rs o ∧ mz_hk rs (16 * o + t) v) → fn_X8_hasKey_b2 f h (some (ad (17, o, 0, 0))) v (nI s) = some (1, h, 0, 0)) ∧ ((¬ ∃ t, s ≤ t ∧ t < mz_sl rs o ∧ mz_hk rs (16 * o + t) v) → fn_X8_hasKey_b2 f h (some (ad (17, o, 0, 0))) v (nI s) = some (0, h, 0, 0)) := by
  have h16 := (mz_sl_le w ho).1
  intro d
  induction d with
  | zero =>
    intro s f hs hf
    obtain ⟨f, rfl⟩ : ∃ g', f = g' + 1 := ⟨f - 1, by omega⟩
    refine ⟨fun ⟨t, h1, h2, _⟩ => by omega, fun _ => ?_⟩
    have hle : Int32.ofNat (mz_sl rs o) ≤ nI s := nI_le (show mz_sl rs o ≤ s by omega) (by omega)
    simp only [fn_X8_hasKey_b2, cg_17_1 hR ho, cl_18a hR ho, if_pos hle, zo_s, zc_t, zl_0, zr_e, z_0, z_1, if_true]
  | succ d ih =>
    intro s f hs hf
    obtain ⟨f, rfl⟩ : ∃ g', f = g' + 1 := ⟨f - 1, by omega⟩
    obtain ⟨k1, k2⟩ := cs_key1 hR w ho (show s < mz_sl rs o by omega) v f
    obtain ⟨i1, i2⟩ := ih (s + 1) f (by omega) (by omega)
    rw [show nI (s + 1) = nI s + 1 from (nI_add s 1).symm] at i1 i2
    refine ⟨fun ⟨t, h1, h2, h3⟩ => ?_, fun hno => ?_⟩
    · by_cases hk : mz_hk rs (16 * o + s) v
      · exact k1 hk
      · rw [k2 hk]
        refine i1 ⟨t, ?_, h2, h3⟩
        rcases Nat.lt_or_ge s t with q | q
        · omega
        · exact absurd h3 (by rw [show t = s by omega]; exact hk)
    · have hk : ¬ mz_hk rs (16 * o + s) v := fun hk => hno ⟨s, by omega, by omega, hk⟩
      rw [k2 hk]
      exact i2 (fun ⟨t, h1, h2, h3⟩ => hno ⟨t, by omega, h2, h3⟩)
theorem rs_key1 (q sz : Nat) (w : mz_wo n m rs) {o s : Nat} (ho : o < m) (hs : s < mz_sl rs o) (x : Int32) (v : Int64) (rc : mz_H → (Option Nat) → Int32 → Int64 → Int32 → mz_Res Int32) (f : Nat) {acc : Int32} (ha : acc = 0 ∨ acc = 1) : (mz_hk rs (16 * o + s) v → fn_X12_find_b28 rc (f + 1) (mz_RH q sz rs) (some q) x v (nI o) acc (nI s) = fn_X12_find_b28 rc f (mz_RH q sz rs) (some q) x v (nI o) 1 (nI s + 1)) ∧ (¬ mz_hk rs (16 * o + s) v → fn_X12_find_b28 rc (f + 1) (mz_RH q sz rs) (some q) x v (nI o) acc (nI s) = fn_X12_find_b28 rc f (mz_RH q sz rs) (some q) x v (nI o) acc (nI s + 1)) := by
  have h16 := (mz_sl_le w ho).1
  have e34 := (mz_sl_le w ho).2
  have hm := w.1
  have hle : ¬ nI (mz_sl rs o) ≤ nI s := nI_ge hs (by omega)
  have o1 : acc ||| 1 = 1 := by rcases ha with rfl | rfl <;> decide
  have o0 : acc ||| 0 = acc := by rcases ha with rfl | rfl <;> decide
  by_cases c1 : (rs.2.1 38 (16 * o + s) &&& 4) = 0
  · refine ⟨fun k => absurd c1 k.1, fun _ => ?_⟩
    conv => lhs; rw [fn_X12_find_b28]
    simp only [rr_34, ra_34, rr_38, ra_38, ix_nI (show o < 60 by omega) (show 60 < 2 ^ 31 by omega), cl_nI (show o < 2 ^ 31 by omega), e34, if_neg hle, l16, ix_nI (show 16 * o + s < 960 by omega) (show 960 < 2 ^ 31 by omega), cl_nI (show 16 * o + s < 2 ^ 31 by omega), if_pos c1, fn_X12_find_b106, fn_X12_find_b107, o0, zo_s, if_true]
  by_cases c2 : rs.2.1 37 (16 * o + s) = 0
  case neg =>
    refine ⟨fun k => absurd k.2.1 c2, fun _ => ?_⟩
    conv => lhs; rw [fn_X12_find_b28]
    simp only [rr_34, ra_34, rr_38, ra_38, rr_37, ra_37, ix_nI (show o < 60 by omega) (show 60 < 2 ^ 31 by omega), cl_nI (show o < 2 ^ 31 by omega), e34, if_neg hle, l16, ix_nI (show 16 * o + s < 960 by omega) (show 960 < 2 ^ 31 by omega), cl_nI (show 16 * o + s < 2 ^ 31 by omega), if_neg c1, if_neg c2, fn_X12_find_b106, fn_X12_find_b107, o0, zo_s, if_true]
  by_cases c3 : rs.2.1 36 (16 * o + s) = 8
  · refine ⟨fun k => absurd c3 k.2.2.1, fun _ => ?_⟩
    conv => lhs; rw [fn_X12_find_b28]
    simp only [rr_34, ra_34, rr_38, ra_38, rr_37, ra_37, rr_36, ra_36, ix_nI (show o < 60 by omega) (show 60 < 2 ^ 31 by omega), cl_nI (show o < 2 ^ 31 by omega), e34, if_neg hle, l16, ix_nI (show 16 * o + s < 960 by omega) (show 960 < 2 ^ 31 by omega), cl_nI (show 16 * o + s < 2 ^ 31 by omega), if_neg c1, if_pos c2, if_pos c3, fn_X12_find_b106, fn_X12_find_b107, o0, zo_s, if_true]
  by_cases c4 : lg_cmp (rs.2.2 43 (900 * (16 * o + s))) v = 0
  · refine ⟨fun _ => ?_, fun k => absurd ⟨c1, c2, c3, c4⟩ k⟩
    conv => lhs; rw [fn_X12_find_b28]
    simp only [rr_34, ra_34, rr_38, ra_38, rr_37, ra_37, rr_36, ra_36, rr_43, ra_43, ix_nI (show o < 60 by omega) (show 60 < 2 ^ 31 by omega), cl_nI (show o < 2 ^ 31 by omega), e34, if_neg hle, l16, ix_nI (show 16 * o + s < 960 by omega) (show 960 < 2 ^ 31 by omega), cl_nI (show 16 * o + s < 2 ^ 31 by omega), if_neg c1, if_pos c2, if_neg c3, l900', ix_nI (show 900 * (16 * o + s) < 864000 by omega) (show 864000 < 2 ^ 31 by omega), cl_nI (show 900 * (16 * o + s) < 2 ^ 31 by omega), if_pos c4, fn_X12_find_b107, o1, zo_s, if_true]
  · refine ⟨fun k => absurd k.2.2.2 c4, fun _ => ?_⟩
    conv => lhs; rw [fn_X12_find_b28]
    simp only [rr_34, ra_34, rr_38, ra_38, rr_37, ra_37, rr_36, ra_36, rr_43, ra_43, ix_nI (show o < 60 by omega) (show 60 < 2 ^ 31 by omega), cl_nI (show o < 2 ^ 31 by omega), e34, if_neg hle, l16, ix_nI (show 16 * o + s < 960 by omega) (show 960 < 2 ^ 31 by omega), cl_nI (show 16 * o + s < 2 ^ 31 by omega), if_neg c1, if_pos c2, if_neg c3, l900', ix_nI (show 900 * (16 * o + s) < 864000 by omega) (show 864000 < 2 ^ 31 by omega), cl_nI (show 900 * (16 * o + s) < 2 ^ 31 by omega), if_neg c4, fn_X12_find_b106, fn_X12_find_b107, o0, zo_s, if_true]
theorem rs_key (q sz : Nat) (w : mz_wo n m rs) {o : Nat} (ho : o < m) (x : Int32) (v : Int64) (rc : mz_H → (Option Nat) → Int32 → Int64 → Int32 → mz_Res Int32) : ∀ (d s f : Nat) (acc : Int32), s + d = mz_sl rs o → d < f → acc = 0 ∨ acc = 1 → ((acc = 1 ∨ ∃ t, s ≤ t ∧ t < mz_sl rs o ∧ mz_hk rs (16 * o + t) v) → ∃ f', fn_X12_find_b28 rc f (mz_RH q sz rs) (some q) x v (nI o) acc (nI s) = fn_X12_find_b28 rc (f' + 1) (mz_RH q sz rs) (some q) x v (nI o) 1 (nI (mz_sl rs o))) ∧ ((acc = 0 ∧ ¬ ∃ t, s ≤ t ∧ t < mz_sl rs o ∧ mz_hk rs (16 * o + t) v) → ∃ f', fn_X12_find_b28 rc f (mz_RH q sz rs) (some q) x v (nI o) acc (nI s) = fn_X12_find_b28 rc (f' + 1) (mz_RH q sz rs) (some q) x v (nI o) 0 (nI (mz_sl rs o))) := by
  intro d
  induction d with
  | zero =>
    intro s f acc hs hf ha
    obtain ⟨f, rfl⟩ : ∃ g', f = g' + 1 := ⟨f - 1, by omega⟩
    obtain rfl : s = mz_sl rs o := by omega
    refine ⟨fun hj => ?_, fun hj => ?_⟩
    · rcases hj with rfl | ⟨t, h1, h2, -⟩
      · exact ⟨f, rfl⟩
      · omega
    · rw [hj.1]
      exact ⟨f, rfl⟩
  | succ d ih =>
    intro s f acc hs hf ha
    obtain ⟨f, rfl⟩ : ∃ g', f = g' + 1 := ⟨f - 1, by omega⟩
    obtain ⟨k1, k2⟩ := rs_key1 q sz w ho (show s < mz_sl rs o by omega) x v rc f ha
    by_cases hk : mz_hk rs (16 * o + s) v
    · obtain ⟨i1, -⟩ := ih (s + 1) f 1 (by omega) (by omega) (Or.inr rfl)
      rw [show nI (s + 1) = nI s + 1 from (nI_add s 1).symm] at i1
      refine ⟨fun _ => ?_, fun hj => absurd ⟨s, by omega, by omega, hk⟩ hj.2⟩
      rw [k1 hk]
      exact i1 (Or.inl rfl)
    · obtain ⟨i1, i2⟩ := ih (s + 1) f acc (by omega) (by omega) ha
      rw [show nI (s + 1) = nI s + 1 from (nI_add s 1).symm] at i1 i2
      rw [k2 hk]
      refine ⟨fun hj => i1 ?_, fun hj => i2 ⟨hj.1, fun ⟨t, h1, h2, h3⟩ => hj.2 ⟨t, by omega, h2, h3⟩⟩⟩
      rcases hj with h | ⟨t, h1, h2, h3⟩
      · exact Or.inl h
      · refine Or.inr ⟨t, ?_, h2, h3⟩
        rcases Nat.lt_or_ge s t with q | q
        · omega
        · exact absurd h3 (by rw [show t = s by omega]; exact hk)
theorem ok_find (wc : mz_wc n rs lv) (wo : mz_wo n m rs) (q sz : Nat) {c : Nat} (hc : c < n) (v : Int64) : ∀ (d i f g : Nat) (h : mz_H) (a : Int32) (A M : Nat → Int32) (a' : Int32) (A' B' C' : Nat → Int32), i + d = m → d < f → d < g → mz_Rp VB n m rs ad lv mk mm (mz_gw gi a A M) go gj h → h.2 = sz →
    ∃ r h2 a2 A2 M2 a3 A3 B3 C3, fn_X11_find_b16 f h (some (ad (1, 0, 0, 0))) (nI c) v (nI i) = some (r, h2, 0, 0) ∧ mz_Rp VB n m rs ad lv mk mm (mz_gw gi a2 A2 M2) go gj h2 ∧ h2.2 = sz ∧ fn_X12_find_b13 g (mz_RH q sz (mz_wy rs a' A' B' C')) (some q) (nI c) v (nI i) = some (r, mz_RH q sz (mz_wy rs a3 A3 B3 C3), 0, 0) := by
  have hn := wc.1
  have hm := wo.1
  intro d
  induction d with
  | zero =>
    intro i f g h a A M a' A' B' C' hi hf hg hR hs
    obtain ⟨f, rfl⟩ : ∃ g', f = g' + 1 := ⟨f - 1, by omega⟩
    obtain ⟨g, rfl⟩ : ∃ g', g = g' + 1 := ⟨g - 1, by omega⟩
    have hle : nI m ≤ nI i := nI_le (by omega) (by omega)
    have e32 : (mz_wy rs a' A' B' C').1 32 = nI m := wo.2.1
    exact ⟨-9, h, a, A, M, a', A', B', C', by simp only [fn_X11_find_b16, cg_1_4 hR, if_pos hle, zo_s, zc_t, zl_0, zr_e, z_0, z_1, if_true], hR, hs, by simp only [fn_X12_find_b13, rg_32, e32, if_pos hle, zo_s, zc_t, zl_0, zr_e, z_0, z_1, if_true]⟩
  | succ d ih =>
    intro i f g h a A M a' A' B' C' hi hf hg hR hs
    obtain ⟨f, rfl⟩ : ∃ g', f = g' + 1 := ⟨f - 1, by omega⟩
    obtain ⟨g, rfl⟩ : ∃ g', g = g' + 1 := ⟨g - 1, by omega⟩
    have him : i < m := by omega
    have hle : ¬ nI m ≤ nI i := nI_ge him (by omega)
    have e32 : (mz_wy rs a' A' B' C').1 32 = nI m := wo.2.1
    have wo' : mz_wo n m (mz_wy rs a' A' B' C') := wo
    have h16 := (mz_sl_le wo him).1
    have e34 : (mz_wy rs a' A' B' C').2.1 34 i = nI (mz_sl rs i) := (mz_sl_le wo him).2
    have ll : nI (mz_sl rs i) ≤ nI (mz_sl rs i) := Int32.le_refl _
    obtain ⟨⟨cl, hcl, e33⟩, -⟩ := wo.2.2.1 i him
    have e33' : (mz_wy rs a' A' B' C').2.1 33 i = nI cl := e33
    by_cases hk : ∃ t, 0 ≤ t ∧ t < mz_sl rs i ∧ mz_hk rs (16 * i + t) v
    · have K1 : fn_X8_hasKey h (some (ad (17, i, 0, 0))) v = some (1, h, 0, 0) := (cs_key hR wo him v (mz_sl rs i) 0 1001 (by omega) (by omega)).1 hk
      obtain ⟨f', K2⟩ := (rs_key (rs := mz_wy rs a' A' B' C') q sz wo' him (nI c) v (fn_X12_find_b13 g) (mz_sl rs i) 0 1001 0 (by show 0 + mz_sl rs i = mz_sl rs i; omega) (by omega) (Or.inl rfl)).1 (Or.inr hk)
      obtain ⟨ws, T⟩ := wy_T_ex wc hcl
      obtain ⟨h1, e1, C1⟩ := cs_isBelow wc hR hcl hc T
      obtain ⟨a2, A2, B2, C2, e2, w2⟩ := rs_isBelow (rs := rs) wc q sz a' A' B' C' hcl hc T
      obtain ⟨a0, A0, M0, R0, -, -, s0⟩ := C1
      by_cases hw : c ∈ ws
      · refine ⟨nI i, h1, a0, A0, M0, a2, A2, B2, C2, ?_, R0, s0.trans hs, ?_⟩
        · simp only [fn_X11_find_b16, cg_1_4 hR, if_neg hle, ci_1 hR, cs_thingOf hR hm him, if_neg smn, ci_17 hR him, K1, if_neg one0, cg_1_0 hR, cg_17_0 hR him, e33, ci_2 hR, e1, if_pos hw, zo_s, zc_t, zl_0, zr_e, z_0, z_1, if_true]
        · simp only [fn_X12_find_b13, rg_32, e32, if_neg hle, zo_s]
          refine K2.trans ?_
          conv => lhs; rw [fn_X12_find_b28]
          show mz_op (mz_fR (mz_RH q sz (mz_wy rs a' A' B' C')) (some q) 11 34) _ = _
          simp only [rr_34, ra_34, rr_33, ra_33, ix_nI (show i < 60 by omega) (show 60 < 2 ^ 31 by omega), cl_nI (show i < 2 ^ 31 by omega), e34, if_neg one0, e33', mz_RH_is, e2, if_pos hw, zo_s, zc_t, zl_0, zr_e, z_0, z_1, if_true]
          rw [if_pos (show nI (mz_sl rs i) ≤ nI (mz_sl (mz_wy rs a' A' B' C') i) from ll)]
      · obtain ⟨r, h2, a4, A4, M4, a5, A5, B5, C5, I1, I2, I3, I4⟩ := ih (i + 1) f g h1 a0 A0 M0 a2 A2 B2 C2 (by omega) (by omega) (by omega) R0 (s0.trans hs)
        rw [show nI (i + 1) = nI i + 1 from (nI_add i 1).symm] at I1 I4
        refine ⟨r, h2, a4, A4, M4, a5, A5, B5, C5, ?_, I2, I3, ?_⟩
        · simp only [fn_X11_find_b16, cg_1_4 hR, if_neg hle, ci_1 hR, cs_thingOf hR hm him, if_neg smn, ci_17 hR him, K1, if_neg one0, cg_1_0 hR, cg_17_0 hR him, e33, ci_2 hR, e1, if_neg hw, fn_X11_find_b66, I1, zo_s, zc_t, zl_0, if_true]
        · simp only [fn_X12_find_b13, rg_32, e32, if_neg hle, zo_s]
          refine K2.trans ?_
          conv => lhs; rw [fn_X12_find_b28]
          simp only [rr_34, ra_34, rr_33, ra_33, ix_nI (show i < 60 by omega) (show 60 < 2 ^ 31 by omega), cl_nI (show i < 2 ^ 31 by omega), e34, if_neg one0, e33', mz_RH_is, e2, if_neg hw, fn_X12_find_b139, I4, zo_s, zc_t, zl_0, if_true]
          rw [if_pos (show nI (mz_sl rs i) ≤ nI (mz_sl (mz_wy rs a' A' B' C') i) from ll)]
    · have K1 : fn_X8_hasKey h (some (ad (17, i, 0, 0))) v = some (0, h, 0, 0) := (cs_key hR wo him v (mz_sl rs i) 0 1001 (by omega) (by omega)).2 hk
      obtain ⟨f', K2⟩ := (rs_key (rs := mz_wy rs a' A' B' C') q sz wo' him (nI c) v (fn_X12_find_b13 g) (mz_sl rs i) 0 1001 0 (by show 0 + mz_sl rs i = mz_sl rs i; omega) (by omega) (Or.inl rfl)).2 ⟨rfl, hk⟩
      obtain ⟨r, h2, a4, A4, M4, a5, A5, B5, C5, I1, I2, I3, I4⟩ := ih (i + 1) f g h a A M a' A' B' C' (by omega) (by omega) (by omega) hR hs
      rw [show nI (i + 1) = nI i + 1 from (nI_add i 1).symm] at I1 I4
      refine ⟨r, h2, a4, A4, M4, a5, A5, B5, C5, ?_, I2, I3, ?_⟩
      · simp only [fn_X11_find_b16, cg_1_4 hR, if_neg hle, ci_1 hR, cs_thingOf hR hm him, if_neg smn, ci_17 hR him, K1, fn_X11_find_b66, I1, zo_s, zc_t, zl_0, if_true]
      · simp only [fn_X12_find_b13, rg_32, e32, if_neg hle, zo_s]
        refine K2.trans ?_
        conv => lhs; rw [fn_X12_find_b28]
        simp only [rr_34, ra_34, ix_nI (show i < 60 by omega) (show 60 < 2 ^ 31 by omega), cl_nI (show i < 2 ^ 31 by omega), e34, fn_X12_find_b139, I4, zo_s, if_true]
        rw [if_pos (show nI (mz_sl rs i) ≤ nI (mz_sl (mz_wy rs a' A' B' C') i) from ll)]
end
theorem k_find {VB o q l : Nat} {rs : mz_RS} {h : mz_H} (H : mz_In VB o (l + 1) rs h) (x : Int32) (v : Int64) : mz_Ok VB o q l rs (fun h => fn_X11_find h (some o) x v) (fun h => fn_X12_find h (some q) x v) h := by
  obtain ⟨n, m, ad, lv, mk, mm, gi, go, gj, hR, w⟩ := id H
  obtain ⟨wc, wm, wo, wt, wl, wq, wa, wv⟩ := id w
  obtain rfl : ad (1, 0, 0, 0) = o := wa
  have hn40 := wc.1
  have hm60 := wo.1
  rcases mz_no x (show n < 2 ^ 31 by omega) with hx | ⟨c, hc, rfl⟩
  · exact mz_Ok.same H (-1) (by simp only [fn_X11_find, cg_1_0 hR, ci_2 hR, cs_typeOf_no hR hx, zo_s, zc_t, zl_0, zr_e, z_0, z_1, if_true]) (by simp only [fn_X12_find, mz_RH_is, rs_isClass_no q h.2 wc.2.1 hx, zo_s, zc_t, zl_0, zr_e, z_0, z_1, if_true])
  obtain ⟨r, h2, a2, A2, M2, a3, A3, B3, C3, I1, I2, I3, I4⟩ := ok_find wc wo q h.2 hc v m 0 1001 1001 h _ _ _ (rs.1 17) (rs.2.1 16) (rs.2.1 18) (rs.2.1 19) (by omega) (by omega) (by omega) hR.gw rfl
  rw [← wy_id rs] at I4
  refine mz_Ok.way r h2 a3 A3 B3 C3 ?_ I3 ?_ ⟨n, m, ad, lv, mk, mm, mz_gw gi a2 A2 M2, go, gj, I2.wy a3 A3 B3 C3, wc, wm, wo, wt, wl, wq, rfl, by omega⟩
  · simp only [fn_X11_find, cg_1_0 hR, ci_2 hR, cs_typeOf hR wc.1 hc, if_neg smn, zo_s, zc_t, zl_0]
    exact I1
  · simp only [fn_X12_find, mz_RH_is, rs_isClass (rs := rs) q h.2 wc.2.1 wc.1 hc, if_neg one0, zc_t, zl_0]
    exact I4

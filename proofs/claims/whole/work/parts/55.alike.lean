/-! alike -/
def al_P (Q : Prop) (r : Int32) : Prop := (r = 1 ∧ Q) ∨ (r = 0 ∧ ¬ Q)
theorem al_P.eq {Q : Prop} {r r' : Int32} (a : al_P Q r) (b : al_P Q r') : r = r' := by
  rcases a with ⟨rfl, q⟩ | ⟨rfl, q⟩ <;> rcases b with ⟨rfl, q'⟩ | ⟨rfl, q'⟩
  · rfl
  · exact absurd q q'
  · exact absurd q' q
  · rfl
theorem al_P.iff {Q Q' : Prop} {r : Int32} (a : al_P Q r) (e : Q ↔ Q') : al_P Q' r := by
  rcases a with ⟨rfl, q⟩ | ⟨rfl, q⟩
  · exact Or.inl ⟨rfl, e.mp q⟩
  · exact Or.inr ⟨rfl, fun z => q (e.mpr z)⟩
theorem al_P.yes {Q : Prop} (q : Q) : al_P Q 1 := Or.inl ⟨rfl, q⟩
theorem al_P.no {Q : Prop} (q : ¬ Q) : al_P Q 0 := Or.inr ⟨rfl, q⟩
theorem al_P.bit {Q : Prop} {r : Int32} (a : al_P Q r) : (r &&& 1 == r) = true := by
  rcases a with ⟨rfl, -⟩ | ⟨rfl, -⟩ <;> decide
theorem al_P.one {Q : Prop} {r : Int32} (a : al_P Q r) : (¬ r = 0 ∧ Q ∧ r = 1) ∨ (r = 0 ∧ ¬ Q) := by
  rcases a with ⟨rfl, q⟩ | ⟨rfl, q⟩
  · exact Or.inl ⟨by decide, q, rfl⟩
  · exact Or.inr ⟨rfl, q⟩
theorem lg_eq0 (x y : Int64) : lg_cmp x y = 0 ↔ x = y := by
  unfold lg_cmp
  by_cases h : x = y
  · subst h
    simp [Int64.lt_irrefl]
  · by_cases h2 : x > y
    · rw [if_pos h2]
      exact ⟨fun e => absurd e (by decide), fun e => absurd e h⟩
    · rw [if_neg h2, if_neg h]
      exact ⟨fun e => absurd e (by decide), fun e => absurd e h⟩
theorem cs_rowLike_l {h : mz_H} {a b a1 b1 N : Nat} {F G : Nat → Int64} (ra : h.1 a = some (.inr (4, [.ref a1]))) (rb : h.1 b = some (.inr (4, [.ref b1]))) (ca : h.1 a1 = some (.inl (1, N, .inr (.inl F)))) (cb : h.1 b1 = some (.inl (1, N, .inr (.inl G)))) (hN : N ≤ 30) : ∀ (d i f : Nat), i + d = N → d < f → ∃ r, fn_X5_isLike_b17 f h (some a) (some b) (nI i) = some (r, h, 0, 0) ∧ al_P (∀ c, i ≤ c → c < N → F c = G c) r := by
  have g1 : mz_fR h (some a) 4 0 = some (some a1) := fR_of (r := some a1) ra rfl
  have g2 : mz_fR h (some b) 4 0 = some (some b1) := fR_of (r := some b1) rb rfl
  intro d
  induction d with
  | zero =>
    intro i f hi hf
    obtain ⟨f, rfl⟩ : ∃ g', f = g' + 1 := ⟨f - 1, by omega⟩
    refine ⟨1, ?_, al_P.yes (fun c h1 h2 => absurd h2 (by omega))⟩
    simp only [fn_X5_isLike_b17, g1, len_of ca, if_pos (nI_le (show N ≤ i by omega) (by omega)), zo_s, zc_t, zl_0, zr_e, z_0, z_1, if_true]
  | succ d ih =>
    intro i f hi hf
    obtain ⟨f, rfl⟩ : ∃ g', f = g' + 1 := ⟨f - 1, by omega⟩
    have hiN : i < N := by omega
    have x1 : mz_aJ h (some a1) (nI i) = some (F i) := by simp only [mz_aJ, mz_ar, ca, if_true, ix_nI (show i < N by omega) (show N < 2 ^ 31 by omega), cl_nI (show i < 2 ^ 31 by omega)]
    have x2 : mz_aJ h (some b1) (nI i) = some (G i) := by simp only [mz_aJ, mz_ar, cb, if_true, ix_nI (show i < N by omega) (show N < 2 ^ 31 by omega), cl_nI (show i < 2 ^ 31 by omega)]
    by_cases e : F i = G i
    · obtain ⟨r, I, p⟩ := ih (i + 1) f (by omega) (by omega)
      rw [show nI (i + 1) = nI i + 1 from (nI_add i 1).symm] at I
      refine ⟨r, ?_, p.iff ⟨fun q c h1 h2 => ?_, fun q c h1 h2 => q c (by omega) h2⟩⟩
      · simp only [fn_X5_isLike_b17, g1, g2, len_of ca, if_neg (nI_ge hiN (show N < 2 ^ 31 by omega)), x1, x2, if_pos ((lg_eq0 _ _).mpr e), I, zo_s]
      · rcases (show c = i ∨ i + 1 ≤ c by omega) with rfl | h3
        · exact e
        · exact q c h3 h2
    · refine ⟨0, ?_, al_P.no (fun q => e (q i (by omega) hiN))⟩
      simp only [fn_X5_isLike_b17, g1, g2, len_of ca, if_neg (nI_ge hiN (show N < 2 ^ 31 by omega)), x1, x2, if_neg (fun z => e ((lg_eq0 _ _).mp z)), zo_s, zc_t, zl_0, zr_e, z_0, z_1, if_true]
theorem cs_rowLike {h : mz_H} {a b a1 b1 N M : Nat} {F G : Nat → Int64} (ra : h.1 a = some (.inr (4, [.ref a1]))) (rb : h.1 b = some (.inr (4, [.ref b1]))) (ca : h.1 a1 = some (.inl (1, N, .inr (.inl F)))) (cb : h.1 b1 = some (.inl (1, M, .inr (.inl G)))) (hN : N ≤ 30) (hM : M ≤ 30) : ∃ r, fn_X6_areLike h (some a) (some b) = some (r, h, 0, 0) ∧ al_P (N = M ∧ ∀ c, c < N → F c = G c) r := by
  have g1 : mz_fR h (some a) 4 0 = some (some a1) := fR_of (r := some a1) ra rfl
  have g2 : mz_fR h (some b) 4 0 = some (some b1) := fR_of (r := some b1) rb rfl
  by_cases e : N = M
  · subst e
    obtain ⟨r, I, p⟩ := cs_rowLike_l ra rb ca cb hN N 0 1001 (by omega) (by omega)
    refine ⟨r, ?_, p.iff ⟨fun q => ⟨rfl, fun c hc => q c (by omega) hc⟩, fun q c _ hc => q.2 c hc⟩⟩
    have I' : fn_X5_isLike_b17 1001 h (some a) (some b) 0 = some (r, h, 0, 0) := I
    simp only [fn_X6_areLike, if_neg smn, is_of ra, fn_X5_isLike, g1, g2, len_of ca, len_of cb, I', p.bit, zo_s, zc_t, zl_0, zr_e, z_0, z_1, if_true]
  · have ne : ¬ nI N = nI M := fun q => e ((nI_eq (by omega) (by omega)).mp q)
    refine ⟨0, ?_, al_P.no (fun q => e q.1)⟩
    simp only [fn_X6_areLike, if_neg smn, is_of ra, fn_X5_isLike, g1, g2, len_of ca, len_of cb, if_neg ne, zo_s, zc_t, zl_0, zr_e, z_0, z_1, if_true]
def al_in (rs : mz_RS) (a b i : Nat) : Prop := rs.2.1 41 (30 * a + i) = rs.2.1 41 (30 * b + i) ∧ (rs.2.1 41 (30 * a + i) = 1 → mz_il rs (30 * a + i) = mz_il rs (30 * b + i) ∧ ∀ c, c < mz_il rs (30 * a + i) → rs.2.2 43 (900 * a + (30 * i + c)) = rs.2.2 43 (900 * b + (30 * i + c)))
def al_sl (rs : mz_RS) (a b : Nat) : Prop := rs.2.1 35 a = rs.2.1 35 b ∧ rs.2.1 36 a = rs.2.1 36 b ∧ rs.2.1 37 a = rs.2.1 37 b ∧ rs.2.1 39 a = rs.2.1 39 b ∧ (rs.2.1 39 a = 1 → mz_rl rs a = mz_rl rs b ∧ (rs.2.1 37 a ≠ 2 → ∀ c, c < mz_rl rs a → rs.2.2 43 (900 * a + c) = rs.2.2 43 (900 * b + c)) ∧ (rs.2.1 37 a = 2 → ∀ i, i < mz_rl rs a → al_in rs a b i))
def al_ob (rs : mz_RS) (o p : Nat) : Prop := rs.2.1 33 o = rs.2.1 33 p ∧ mz_sl rs o = mz_sl rs p ∧ ∀ s, s < mz_sl rs o → al_sl rs (16 * o + s) (16 * p + s)
section
variable {VB : Nat} {n m : Nat} {rs : mz_RS} {ad : mz_T → Nat} {lv : Nat → Int32} {mk : Nat → Nat} {mm : Nat → Nat → Nat × Nat} {gi : Nat → Nat → Nat → Int32} {go : Nat → Nat → Option Nat} {gj : Nat → Nat → Int64} {h : mz_H}
theorem cs_inLike (hR : mz_Rp VB n m rs ad lv mk mm gi go gj h) (w : mz_wo n m rs) {o p s : Nat} (ho : o < m) (hp : p < m) (hs : s < mz_sl rs o) (hs' : s < mz_sl rs p) (e1 : rs.2.1 39 (16 * o + s) = 1) (e1' : rs.2.1 39 (16 * p + s) = 1) (e2 : rs.2.1 37 (16 * o + s) = 2) (e2' : rs.2.1 37 (16 * p + s) = 2) (er : mz_rl rs (16 * o + s) = mz_rl rs (16 * p + s)) : ∀ (d i f : Nat), i + d = mz_rl rs (16 * o + s) → d < f → ∃ r, fn_X6_isLike_b101 f h (some (ad (19, o, s, 0))) (some (ad (19, p, s, 0))) (nI (mz_rl rs (16 * o + s))) (nI i) = some (r, h, 0, 0) ∧ al_P (∀ c, i ≤ c → c < mz_rl rs (16 * o + s) → al_in rs (16 * o + s) (16 * p + s) c) r := by
  have h30 := (rl_le w ho hs).1
  have h30' := (rl_le w hp hs').1
  intro d
  induction d with
  | zero =>
    intro i f hi hf
    obtain ⟨f, rfl⟩ : ∃ g', f = g' + 1 := ⟨f - 1, by omega⟩
    refine ⟨1, ?_, al_P.yes (fun c h1 h2 => absurd h2 (by omega))⟩
    simp only [fn_X6_isLike_b101, if_pos (nI_le (show mz_rl rs (16 * o + s) ≤ i by omega) (by omega)), zo_s, zc_t, zl_0, zr_e, z_0, z_1, if_true]
  | succ d ih =>
    intro i f hi hf
    obtain ⟨f, rfl⟩ : ∃ g', f = g' + 1 := ⟨f - 1, by omega⟩
    have hiN : i < mz_rl rs (16 * o + s) := by omega
    have hiM : i < mz_rl rs (16 * p + s) := by omega
    have ng := nI_ge hiN (show mz_rl rs (16 * o + s) < 2 ^ 31 by omega)
    have RA := cs_rowAt2 hR w ho hs e1 e2 hiN
    have RB := cs_rowAt2 hR w hp hs' e1' e2' hiM
    have step : ∀ r, fn_X6_areLike h (if rs.2.1 41 (30 * (16 * o + s) + i) = 1 then some (ad (23, o, s, i)) else none) (if rs.2.1 41 (30 * (16 * p + s) + i) = 1 then some (ad (23, p, s, i)) else none) = some (r, h, 0, 0) → al_P (al_in rs (16 * o + s) (16 * p + s) i) r → ∃ r, fn_X6_isLike_b101 (f + 1) h (some (ad (19, o, s, 0))) (some (ad (19, p, s, 0))) (nI (mz_rl rs (16 * o + s))) (nI i) = some (r, h, 0, 0) ∧ al_P (∀ c, i ≤ c → c < mz_rl rs (16 * o + s) → al_in rs (16 * o + s) (16 * p + s) c) r := by
      intro r e p0
      rcases p0.one with ⟨n0, q, -⟩ | ⟨r0, q⟩
      · obtain ⟨r2, I, p2⟩ := ih (i + 1) f (by omega) (by omega)
        rw [show nI (i + 1) = nI i + 1 from (nI_add i 1).symm] at I
        refine ⟨r2, ?_, p2.iff ⟨fun q2 c h1 h2 => ?_, fun q2 c h1 h2 => q2 c (by omega) h2⟩⟩
        · simp only [fn_X6_isLike_b101, if_neg ng, ci_19 hR ho hs, ci_19 hR hp hs', RA, RB, e, if_neg n0, I, zo_s, zc_t, zl_0]
        · rcases (show c = i ∨ i + 1 ≤ c by omega) with rfl | h3
          · exact q
          · exact q2 c h3 h2
      · refine ⟨0, ?_, al_P.no (fun q2 => q (q2 i (by omega) hiN))⟩
        simp only [fn_X6_isLike_b101, if_neg ng, ci_19 hR ho hs, ci_19 hR hp hs', RA, RB, e, if_pos r0, zo_s, zc_t, zl_0, zr_e, z_0, z_1, if_true]
    have d01 : ¬ (0 : Int32) = 1 := by decide
    rcases (w.2.2.2.2.1 o s i ho hs (by omega) e2 e1 hiN).1 with h4 | h4
    · rcases (w.2.2.2.2.1 p s i hp hs' (by omega) e2' e1' hiM).1 with h4' | h4'
      · refine step 1 ?_ (al_P.yes ⟨h4.trans h4'.symm, fun z => ?_⟩)
        · simp only [h4, h4', if_neg d01, fn_X6_areLike, fn_X6_areLike_b8, zo_s, zc_t, zl_0, zr_e, z_0, z_1, if_true]
        · rw [h4] at z
          exact absurd z d01
      · refine step 0 ?_ (al_P.no fun z => ?_)
        · simp only [h4, h4', if_neg d01, fn_X6_areLike, fn_X6_areLike_b8, if_neg smn, zo_s, zc_t, zl_0, zr_e, z_0, z_1, if_true]
        · have := z.1
          rw [h4, h4'] at this
          exact d01 this
    · have b1 := (il_le w ho hs e1 e2 hiN h4).1
      rcases (w.2.2.2.2.1 p s i hp hs' (by omega) e2' e1' hiM).1 with h4' | h4'
      · refine step 0 ?_ (al_P.no fun z => ?_)
        · simp only [h4, h4', if_neg d01, fn_X6_areLike, fn_X6_areLike_b8, if_neg smn, zo_s, zc_t, zl_0, zr_e, z_0, z_1, if_true]
        · have := z.1
          rw [h4, h4'] at this
          exact d01 this.symm
      · have b2 := (il_le w hp hs' e1' e2' hiM h4').1
        obtain ⟨r, e, p0⟩ := cs_rowLike (cc_23 hR ho hs e1 e2 hiN h4) (cc_23 hR hp hs' e1' e2' hiM h4') (cc_24 hR ho hs e1 e2 hiN h4) (cc_24 hR hp hs' e1' e2' hiM h4') b1 b2
        refine step r ?_ (p0.iff ⟨fun z => ⟨h4.trans h4'.symm, fun _ => ⟨z.1, fun c hc => ?_⟩⟩, fun z => ⟨(z.2 h4).1, fun c hc => ?_⟩⟩)
        · rw [if_pos h4, if_pos h4']
          exact e
        · have := z.2 c hc
          rw [if_pos hc, if_pos (z.1 ▸ hc)] at this
          exact this
        · rw [if_pos hc, if_pos ((z.2 h4).1 ▸ hc)]
          exact (z.2 h4).2 c hc
theorem cs_slotLike (hR : mz_Rp VB n m rs ad lv mk mm gi go gj h) (w : mz_wo n m rs) {o p s : Nat} (ho : o < m) (hp : p < m) (hs : s < mz_sl rs o) (hs' : s < mz_sl rs p) : ∃ r, fn_X6_isLike h (some (ad (19, o, s, 0))) (some (ad (19, p, s, 0))) = some (r, h, 0, 0) ∧ al_P (al_sl rs (16 * o + s) (16 * p + s)) r := by
  have h30 := (rl_le w ho hs).1
  have h30' := (rl_le w hp hs').1
  have d01 : ¬ (0 : Int32) = 1 := by decide
  by_cases a35 : rs.2.1 35 (16 * o + s) = rs.2.1 35 (16 * p + s)
  case neg => exact ⟨0, by simp only [fn_X6_isLike, cg_19_0 hR ho hs, cg_19_0 hR hp hs', if_neg a35, zo_s, zc_t, zl_0, zr_e, z_0, z_1, if_true], al_P.no fun z => a35 z.1⟩
  by_cases a36 : rs.2.1 36 (16 * o + s) = rs.2.1 36 (16 * p + s)
  case neg => exact ⟨0, by simp only [fn_X6_isLike, cg_19_0 hR ho hs, cg_19_0 hR hp hs', if_pos a35, cg_19_1 hR ho hs, cg_19_1 hR hp hs', if_neg a36, zo_s, zc_t, zl_0, zr_e, z_0, z_1, if_true], al_P.no fun z => a36 z.2.1⟩
  by_cases a37 : rs.2.1 37 (16 * o + s) = rs.2.1 37 (16 * p + s)
  case neg => exact ⟨0, by simp only [fn_X6_isLike, cg_19_0 hR ho hs, cg_19_0 hR hp hs', if_pos a35, cg_19_1 hR ho hs, cg_19_1 hR hp hs', if_pos a36, cg_19_2 hR ho hs, cg_19_2 hR hp hs', if_neg a37, zo_s, zc_t, zl_0, zr_e, z_0, z_1, if_true], al_P.no fun z => a37 z.2.2.1⟩
  have NO := cs_nothing hR w ho hs
  have NP := cs_nothing hR w hp hs'
  rcases (w.2.2.2.1 o s ho hs).2.2.2.1 with h9 | h9
  · rw [h9, if_pos rfl] at NO
    rcases (w.2.2.2.1 p s hp hs').2.2.2.1 with h9' | h9'
    · rw [h9', if_pos rfl] at NP
      refine ⟨1, ?_, al_P.yes ⟨a35, a36, a37, h9.trans h9'.symm, fun z => ?_⟩⟩
      · simp only [fn_X6_isLike, cg_19_0 hR ho hs, cg_19_0 hR hp hs', if_pos a35, cg_19_1 hR ho hs, cg_19_1 hR hp hs', if_pos a36, cg_19_2 hR ho hs, cg_19_2 hR hp hs', if_pos a37, ci_19 hR ho hs, ci_19 hR hp hs', NO, NP, if_neg one0, fn_X6_isLike_b49, zo_s, zc_t, zl_0, zr_e, z_0, z_1, if_true]
      · rw [h9] at z
        exact absurd z d01
    · rw [h9', if_neg one0] at NP
      refine ⟨0, ?_, al_P.no fun z => ?_⟩
      · simp only [fn_X6_isLike, cg_19_0 hR ho hs, cg_19_0 hR hp hs', if_pos a35, cg_19_1 hR ho hs, cg_19_1 hR hp hs', if_pos a36, cg_19_2 hR ho hs, cg_19_2 hR hp hs', if_pos a37, ci_19 hR ho hs, ci_19 hR hp hs', NO, NP, if_neg one0, fn_X6_isLike_b49, zo_s, zc_t, zl_0, zr_e, z_0, z_1, if_true]
      · have := z.2.2.2.1
        rw [h9, h9'] at this
        exact d01 this
  · rw [h9, if_neg one0] at NO
    rcases (w.2.2.2.1 p s hp hs').2.2.2.1 with h9' | h9'
    · rw [h9', if_pos rfl] at NP
      refine ⟨0, ?_, al_P.no fun z => ?_⟩
      · simp only [fn_X6_isLike, cg_19_0 hR ho hs, cg_19_0 hR hp hs', if_pos a35, cg_19_1 hR ho hs, cg_19_1 hR hp hs', if_pos a36, cg_19_2 hR ho hs, cg_19_2 hR hp hs', if_pos a37, ci_19 hR ho hs, ci_19 hR hp hs', NO, NP, if_neg one0, fn_X6_isLike_b49, zo_s, zc_t, zl_0, zr_e, z_0, z_1, if_true]
      · have := z.2.2.2.1
        rw [h9, h9'] at this
        exact d01 this.symm
    · rw [h9', if_neg one0] at NP
      have LO := cs_length hR w ho hs h9
      have LP := cs_length hR w hp hs' h9'
      by_cases er : mz_rl rs (16 * o + s) = mz_rl rs (16 * p + s)
      case neg =>
        have ne : ¬ nI (mz_rl rs (16 * o + s)) = nI (mz_rl rs (16 * p + s)) := fun q => er ((nI_eq (by omega) (by omega)).mp q)
        refine ⟨0, ?_, al_P.no fun z => er (z.2.2.2.2 h9).1⟩
        simp only [fn_X6_isLike, cg_19_0 hR ho hs, cg_19_0 hR hp hs', if_pos a35, cg_19_1 hR ho hs, cg_19_1 hR hp hs', if_pos a36, cg_19_2 hR ho hs, cg_19_2 hR hp hs', if_pos a37, ci_19 hR ho hs, ci_19 hR hp hs', NO, NP, LO, LP, if_neg ne, zo_s, zc_t, zl_0, zr_e, z_0, z_1, if_true]
      have eq : nI (mz_rl rs (16 * o + s)) = nI (mz_rl rs (16 * p + s)) := congrArg nI er
      by_cases h2 : rs.2.1 37 (16 * o + s) = 2
      · have h2' : rs.2.1 37 (16 * p + s) = 2 := a37 ▸ h2
        obtain ⟨r, I, p0⟩ := cs_inLike hR w ho hp hs hs' h9 h9' h2 h2' er (mz_rl rs (16 * o + s)) 0 1001 (by omega) (by omega)
        have I' : fn_X6_isLike_b101 1001 h (some (ad (19, o, s, 0))) (some (ad (19, p, s, 0))) (nI (mz_rl rs (16 * o + s))) 0 = some (r, h, 0, 0) := I
        refine ⟨r, ?_, p0.iff ⟨fun z => ⟨a35, a36, a37, h9.trans h9'.symm, fun _ => ⟨er, fun n2 => absurd h2 n2, fun _ i hi => z i (by omega) hi⟩⟩, fun z i _ hi => (z.2.2.2.2 h9).2.2 h2 i hi⟩⟩
        simp only [fn_X6_isLike, cg_19_0 hR ho hs, cg_19_0 hR hp hs', if_pos a35, cg_19_1 hR ho hs, cg_19_1 hR hp hs', if_pos a36, cg_19_2 hR ho hs, cg_19_2 hR hp hs', if_pos a37, ci_19 hR ho hs, ci_19 hR hp hs', NO, NP, LO, LP, if_pos eq, if_pos h2, fn_X6_isLike_b98, I', zo_s, zc_t, zl_0, zr_e, z_0, z_1, if_true]
      · have h2' : rs.2.1 37 (16 * p + s) ≠ 2 := a37 ▸ h2
        obtain ⟨r, e, p0⟩ := cs_rowLike (cc_20 hR ho hs h9 h2) (cc_20 hR hp hs' h9' h2') (cc_21 hR ho hs h9 h2) (cc_21 hR hp hs' h9' h2') h30 h30'
        have I0 : ∀ f, fn_X6_isLike_b101 (f + 1 + 1) h (some (ad (19, o, s, 0))) (some (ad (19, p, s, 0))) 1 0 = some (r, h, 0, 0) := fun f => by
          have n1 : ¬ (1 : Int32) ≤ 0 := by decide
          have n2 : (1 : Int32) ≤ 0 + 1 := by decide
          rcases p0.one with ⟨n0, -, rfl⟩ | ⟨rfl, -⟩
          · simp only [fn_X6_isLike_b101, if_neg n1, ci_19 hR ho hs, ci_19 hR hp hs', cs_rowAt1 hR ho hs h9 h2, cs_rowAt1 hR hp hs' h9' h2', e, if_neg n0, if_pos n2, zo_s, zc_t, zl_0, zr_e, z_0, z_1, if_true]
          · simp only [fn_X6_isLike_b101, if_neg n1, ci_19 hR ho hs, ci_19 hR hp hs', cs_rowAt1 hR ho hs h9 h2, cs_rowAt1 hR hp hs' h9' h2', e, zo_s, zc_t, zl_0, zr_e, z_0, z_1, if_true]
        have I' := I0 999
        refine ⟨r, ?_, p0.iff ⟨fun z => ⟨a35, a36, a37, h9.trans h9'.symm, fun _ => ⟨er, fun _ c hc => ?_, fun q => absurd q h2⟩⟩, fun z => ⟨er, fun c hc => ?_⟩⟩⟩
        · simp only [fn_X6_isLike, cg_19_0 hR ho hs, cg_19_0 hR hp hs', if_pos a35, cg_19_1 hR ho hs, cg_19_1 hR hp hs', if_pos a36, cg_19_2 hR ho hs, cg_19_2 hR hp hs', if_pos a37, ci_19 hR ho hs, ci_19 hR hp hs', NO, NP, LO, LP, if_pos eq, if_neg h2, fn_X6_isLike_b98, I', zo_s, zc_t, zl_0, zr_e, z_0, z_1, if_true]
        · have := z.2 c hc
          rw [if_pos hc, if_pos (er ▸ hc)] at this
          exact this
        · rw [if_pos hc, if_pos (er ▸ hc)]
          exact (z.2.2.2.2 h9).2.1 h2 c hc
theorem cs_thingLike_l (hR : mz_Rp VB n m rs ad lv mk mm gi go gj h) (w : mz_wo n m rs) {o p : Nat} (ho : o < m) (hp : p < m) (es : mz_sl rs o = mz_sl rs p) : ∀ (d i f : Nat), i + d = mz_sl rs o → d < f → ∃ r, fn_X8_isLike_b28 f h (some (ad (17, o, 0, 0))) (some (ad (17, p, 0, 0))) (nI i) = some (r, h, 0, 0) ∧ al_P (∀ s, i ≤ s → s < mz_sl rs o → al_sl rs (16 * o + s) (16 * p + s)) r := by
  have h16 := (mz_sl_le w ho).1
  have h16' := (mz_sl_le w hp).1
  have el : Int32.ofNat (mz_sl rs o) = nI (mz_sl rs o) := rfl
  intro d
  induction d with
  | zero =>
    intro i f hi hf
    obtain ⟨f, rfl⟩ : ∃ g', f = g' + 1 := ⟨f - 1, by omega⟩
    refine ⟨1, ?_, al_P.yes (fun c h1 h2 => absurd h2 (by omega))⟩
    simp only [fn_X8_isLike_b28, cg_17_1 hR ho, cl_18a hR ho, el, if_pos (nI_le (show mz_sl rs o ≤ i by omega) (by omega)), zo_s, zc_t, zl_0, zr_e, z_0, z_1, if_true]
  | succ d ih =>
    intro i f hi hf
    obtain ⟨f, rfl⟩ : ∃ g', f = g' + 1 := ⟨f - 1, by omega⟩
    have hiN : i < mz_sl rs o := by omega
    have hiM : i < mz_sl rs p := by omega
    have ng := nI_ge hiN (show mz_sl rs o < 2 ^ 31 by omega)
    obtain ⟨r, e, p0⟩ := cs_slotLike hR w ho hp hiN hiM
    rcases p0.one with ⟨n0, q, -⟩ | ⟨r0, q⟩
    · obtain ⟨r2, I, p2⟩ := ih (i + 1) f (by omega) (by omega)
      rw [show nI (i + 1) = nI i + 1 from (nI_add i 1).symm] at I
      refine ⟨r2, ?_, p2.iff ⟨fun q2 c h1 h2 => ?_, fun q2 c h1 h2 => q2 c (by omega) h2⟩⟩
      · simp only [fn_X8_isLike_b28, cg_17_1 hR ho, cg_17_1 hR hp, cl_18a hR ho, el, if_neg ng, ca_18 hR ho, ca_18 hR hp, ix_nI (show i < mz_sl rs o by omega) (show mz_sl rs o < 2 ^ 31 by omega), cl_nI (show i < 2 ^ 31 by omega), ix_nI hiM (show mz_sl rs p < 2 ^ 31 by omega), if_pos hiN, if_pos hiM, ci_19 hR ho hiN, e, if_neg n0, I, zo_s, zc_t, zl_0, if_true]
      · rcases (show c = i ∨ i + 1 ≤ c by omega) with rfl | h3
        · exact q
        · exact q2 c h3 h2
    · refine ⟨0, ?_, al_P.no (fun q2 => q (q2 i (by omega) hiN))⟩
      simp only [fn_X8_isLike_b28, cg_17_1 hR ho, cg_17_1 hR hp, cl_18a hR ho, el, if_neg ng, ca_18 hR ho, ca_18 hR hp, ix_nI (show i < mz_sl rs o by omega) (show mz_sl rs o < 2 ^ 31 by omega), cl_nI (show i < 2 ^ 31 by omega), ix_nI hiM (show mz_sl rs p < 2 ^ 31 by omega), if_pos hiN, if_pos hiM, ci_19 hR ho hiN, e, if_pos r0, zo_s, zc_t, zl_0, zr_e, z_0, z_1, if_true]
theorem cs_thingLike (hR : mz_Rp VB n m rs ad lv mk mm gi go gj h) (w : mz_wo n m rs) {o p : Nat} (ho : o < m) (hp : p < m) : ∃ r, fn_X8_isLike h (some (ad (17, o, 0, 0))) (some (ad (17, p, 0, 0))) = some (r, h, 0, 0) ∧ al_P (al_ob rs o p) r := by
  have h16 := (mz_sl_le w ho).1
  have h16' := (mz_sl_le w hp).1
  have el : ∀ o, Int32.ofNat (mz_sl rs o) = nI (mz_sl rs o) := fun _ => rfl
  by_cases a33 : rs.2.1 33 o = rs.2.1 33 p
  case neg => exact ⟨0, by simp only [fn_X8_isLike, cg_17_0 hR ho, cg_17_0 hR hp, if_neg a33, zo_s, zc_t, zl_0, zr_e, z_0, z_1, if_true], al_P.no fun z => a33 z.1⟩
  by_cases es : mz_sl rs o = mz_sl rs p
  case neg =>
    have ne : ¬ nI (mz_sl rs o) = nI (mz_sl rs p) := fun q => es ((nI_eq (by omega) (by omega)).mp q)
    exact ⟨0, by simp only [fn_X8_isLike, cg_17_0 hR ho, cg_17_0 hR hp, if_pos a33, cg_17_1 hR ho, cg_17_1 hR hp, cl_18a hR ho, cl_18a hR hp, el, if_neg ne, zo_s, zc_t, zl_0, zr_e, z_0, z_1, if_true], al_P.no fun z => es z.2.1⟩
  have eq : nI (mz_sl rs o) = nI (mz_sl rs p) := congrArg nI es
  obtain ⟨r, I, p0⟩ := cs_thingLike_l hR w ho hp es (mz_sl rs o) 0 1001 (by omega) (by omega)
  have I' : fn_X8_isLike_b28 1001 h (some (ad (17, o, 0, 0))) (some (ad (17, p, 0, 0))) 0 = some (r, h, 0, 0) := I
  refine ⟨r, ?_, p0.iff ⟨fun z => ⟨a33, es, fun s hs => z s (by omega) hs⟩, fun z s _ hs => z.2.2 s hs⟩⟩
  simp only [fn_X8_isLike, cg_17_0 hR ho, cg_17_0 hR hp, if_pos a33, cg_17_1 hR ho, cg_17_1 hR hp, cl_18a hR ho, cl_18a hR hp, el, if_pos eq, I', zo_s]
end
section
variable {VB : Nat} {n m : Nat} {rs : mz_RS} {ad : mz_T → Nat} {lv : Nat → Int32} {mk : Nat → Nat} {mm : Nat → Nat → Nat × Nat} {gi : Nat → Nat → Nat → Int32} {go : Nat → Nat → Option Nat} {gj : Nat → Nat → Int64} {h : mz_H}
theorem rs_cellsLike (q sz : Nat) {a b F N : Nat} (ha : a < 960) (hb : b < 960) (hF : F + N ≤ 900) : ∀ (d i f : Nat) (x : Int32), i + d = N → d < f → al_P (∀ c, c < i → rs.2.2 43 (900 * a + (F + c)) = rs.2.2 43 (900 * b + (F + c))) x → ∃ r, fn_X12_areCellsAlike_b6 f (mz_RH q sz rs) (some q) (nI a) (nI b) (nI F) (nI N) x (nI i) = some (r, mz_RH q sz rs, 0, 0) ∧ al_P (∀ c, c < N → rs.2.2 43 (900 * a + (F + c)) = rs.2.2 43 (900 * b + (F + c))) r := by
  intro d
  induction d with
  | zero =>
    intro i f x hi hf p
    obtain ⟨f, rfl⟩ : ∃ g', f = g' + 1 := ⟨f - 1, by omega⟩
    have e : i = N := by omega
    subst e
    exact ⟨x, by simp only [fn_X12_areCellsAlike_b6, if_pos (Int32.le_refl _), p.bit, zo_s, zc_t, zl_0, zr_e, z_0, z_1, if_true], p⟩
  | succ d ih =>
    intro i f x hi hf p
    obtain ⟨f, rfl⟩ : ∃ g', f = g' + 1 := ⟨f - 1, by omega⟩
    have hiN : i < N := by omega
    have ng := nI_ge hiN (show N < 2 ^ 31 by omega)
    have ix1 : (900 : Int32) * nI a + nI F + nI i = nI (900 * a + (F + i)) := by rw [l900, nI_add, Nat.add_assoc]
    have ix2 : (900 : Int32) * nI b + nI F + nI i = nI (900 * b + (F + i)) := by rw [l900, nI_add, Nat.add_assoc]
    by_cases e : rs.2.2 43 (900 * a + (F + i)) = rs.2.2 43 (900 * b + (F + i))
    · have p1 : al_P (∀ c, c < i + 1 → rs.2.2 43 (900 * a + (F + c)) = rs.2.2 43 (900 * b + (F + c))) (x &&& 1) := by
        rw [show x &&& 1 = x from eq_of_beq p.bit]
        refine p.iff ⟨fun z c hc => ?_, fun z c hc => z c (by omega)⟩
        rcases (show c = i ∨ c < i by omega) with rfl | h3
        · exact e
        · exact z c h3
      obtain ⟨r, I, pr⟩ := ih (i + 1) f (x &&& 1) (by omega) (by omega) p1
      rw [show nI (i + 1) = nI i + 1 from (nI_add i 1).symm] at I
      refine ⟨r, ?_, pr⟩
      simp only [fn_X12_areCellsAlike_b6, if_neg ng, rr_43, ra_43, ix1, ix2, ix_nI (show 900 * a + (F + i) < 864000 by omega) (show 864000 < 2 ^ 31 by omega), cl_nI (show 900 * a + (F + i) < 2 ^ 31 by omega), ix_nI (show 900 * b + (F + i) < 864000 by omega) (show 864000 < 2 ^ 31 by omega), cl_nI (show 900 * b + (F + i) < 2 ^ 31 by omega), if_pos ((lg_eq0 _ _).mpr e), fn_X12_areCellsAlike_b54, I, zo_s, if_true]
    · have p1 : al_P (∀ c, c < i + 1 → rs.2.2 43 (900 * a + (F + c)) = rs.2.2 43 (900 * b + (F + c))) (x &&& 0) := by
        have ez : x &&& 0 = 0 := by rcases p.one with ⟨-, -, rfl⟩ | ⟨rfl, -⟩ <;> decide
        rw [ez]
        exact al_P.no fun z => e (z i (by omega))
      obtain ⟨r, I, pr⟩ := ih (i + 1) f (x &&& 0) (by omega) (by omega) p1
      rw [show nI (i + 1) = nI i + 1 from (nI_add i 1).symm] at I
      refine ⟨r, ?_, pr⟩
      simp only [fn_X12_areCellsAlike_b6, if_neg ng, rr_43, ra_43, ix1, ix2, ix_nI (show 900 * a + (F + i) < 864000 by omega) (show 864000 < 2 ^ 31 by omega), cl_nI (show 900 * a + (F + i) < 2 ^ 31 by omega), ix_nI (show 900 * b + (F + i) < 864000 by omega) (show 864000 < 2 ^ 31 by omega), cl_nI (show 900 * b + (F + i) < 2 ^ 31 by omega), if_neg (fun z => e ((lg_eq0 _ _).mp z)), fn_X12_areCellsAlike_b54, I, zo_s, if_true]
theorem rs_cellsLike' (q sz : Nat) {a b F N : Nat} (ha : a < 960) (hb : b < 960) (hF : F + N ≤ 900) : ∃ r, fn_X12_areCellsAlike (mz_RH q sz rs) (some q) (nI a) (nI b) (nI F) (nI N) = some (r, mz_RH q sz rs, 0, 0) ∧ al_P (∀ c, c < N → rs.2.2 43 (900 * a + (F + c)) = rs.2.2 43 (900 * b + (F + c))) r :=
  rs_cellsLike q sz ha hb hF N 0 1001 1 (by omega) (by omega) (al_P.yes fun c hc => absurd hc (by omega))
theorem rs_inLike (q sz : Nat) (w : mz_wo n m rs) {o p s : Nat} (ho : o < m) (hp : p < m) (hs : s < mz_sl rs o) (hs' : s < mz_sl rs p) (e1 : rs.2.1 39 (16 * o + s) = 1) (e1' : rs.2.1 39 (16 * p + s) = 1) (e2 : rs.2.1 37 (16 * o + s) = 2) (e2' : rs.2.1 37 (16 * p + s) = 2) (er : mz_rl rs (16 * o + s) = mz_rl rs (16 * p + s)) : ∀ (d i f : Nat) (x : Int32), i + d = mz_rl rs (16 * o + s) → d < f → al_P (∀ c, c < i → al_in rs (16 * o + s) (16 * p + s) c) x → ∃ r, fn_X12_areSlotsAlike_b119 f (mz_RH q sz rs) (some q) (nI (16 * o + s)) (nI (16 * p + s)) x (nI i) = some (r, mz_RH q sz rs, 0, 0) ∧ al_P (∀ c, c < mz_rl rs (16 * o + s) → al_in rs (16 * o + s) (16 * p + s) c) r := by
  have h30 := (rl_le w ho hs).1
  have e40 := (rl_le w ho hs).2
  have h30' := (rl_le w hp hs').1
  have h16 := (mz_sl_le w ho).1
  have h16' := (mz_sl_le w hp).1
  have hm := w.1
  have d01 : ¬ (0 : Int32) = 1 := by decide
  intro d
  induction d with
  | zero =>
    intro i f x hi hf p
    obtain ⟨f, rfl⟩ : ∃ g', f = g' + 1 := ⟨f - 1, by omega⟩
    have e : i = mz_rl rs (16 * o + s) := by omega
    subst e
    exact ⟨x, by simp only [fn_X12_areSlotsAlike_b119, rr_40, ra_40, ix_nI (show 16 * o + s < 960 by omega) (show 960 < 2 ^ 31 by omega), cl_nI (show 16 * o + s < 2 ^ 31 by omega), e40, if_pos (Int32.le_refl _), p.bit, zo_s, zc_t, zl_0, zr_e, z_0, z_1, if_true], p⟩
  | succ d ih =>
    intro i f x hi hf p0
    obtain ⟨f, rfl⟩ : ∃ g', f = g' + 1 := ⟨f - 1, by omega⟩
    have hiN : i < mz_rl rs (16 * o + s) := by omega
    have hiM : i < mz_rl rs (16 * p + s) := by omega
    have ng := nI_ge hiN (show mz_rl rs (16 * o + s) < 2 ^ 31 by omega)
    rcases p0.one with ⟨n0, q0, -⟩ | ⟨r0, q0⟩
    case inr => exact ⟨0, by simp only [fn_X12_areSlotsAlike_b119, rr_40, ra_40, ix_nI (show 16 * o + s < 960 by omega) (show 960 < 2 ^ 31 by omega), cl_nI (show 16 * o + s < 2 ^ 31 by omega), e40, if_neg ng, r0, zo_s, zc_t, zl_0, zr_e, z_0, z_1, if_true], al_P.no fun z => q0 fun c hc => z c (by omega)⟩
    have yes : al_in rs (16 * o + s) (16 * p + s) i → ∃ r, fn_X12_areSlotsAlike_b119 f (mz_RH q sz rs) (some q) (nI (16 * o + s)) (nI (16 * p + s)) 1 (nI i + 1) = some (r, mz_RH q sz rs, 0, 0) ∧ al_P (∀ c, c < mz_rl rs (16 * o + s) → al_in rs (16 * o + s) (16 * p + s) c) r := fun a => by
      obtain ⟨r, I, pr⟩ := ih (i + 1) f 1 (by omega) (by omega) (al_P.yes fun c hc => by
        rcases (show c = i ∨ c < i by omega) with rfl | h3
        · exact a
        · exact q0 c h3)
      rw [show nI (i + 1) = nI i + 1 from (nI_add i 1).symm] at I
      exact ⟨r, I, pr⟩
    have no : ¬ al_in rs (16 * o + s) (16 * p + s) i → ∃ r, fn_X12_areSlotsAlike_b119 f (mz_RH q sz rs) (some q) (nI (16 * o + s)) (nI (16 * p + s)) 0 (nI i + 1) = some (r, mz_RH q sz rs, 0, 0) ∧ al_P (∀ c, c < mz_rl rs (16 * o + s) → al_in rs (16 * o + s) (16 * p + s) c) r := fun a => by
      obtain ⟨r, I, pr⟩ := ih (i + 1) f 0 (by omega) (by omega) (al_P.no fun z => a (z i (by omega)))
      rw [show nI (i + 1) = nI i + 1 from (nI_add i 1).symm] at I
      exact ⟨r, I, pr⟩
    rcases (w.2.2.2.2.1 o s i ho hs (by omega) e2 e1 hiN).1 with h4 | h4
    · rcases (w.2.2.2.2.1 p s i hp hs' (by omega) e2' e1' hiM).1 with h4' | h4'
      · obtain ⟨r, I, pr⟩ := yes ⟨h4.trans h4'.symm, fun z => by rw [h4] at z; exact absurd z d01⟩
        exact ⟨r, by simp only [fn_X12_areSlotsAlike_b119, rr_40, ra_40, rr_41, ra_41, ix_nI (show 16 * o + s < 960 by omega) (show 960 < 2 ^ 31 by omega), cl_nI (show 16 * o + s < 2 ^ 31 by omega), e40, if_neg ng, if_neg n0, l30, ix_nI (show 30 * (16 * o + s) + i < 28800 by omega) (show 28800 < 2 ^ 31 by omega), cl_nI (show 30 * (16 * o + s) + i < 2 ^ 31 by omega), ix_nI (show 30 * (16 * p + s) + i < 28800 by omega) (show 28800 < 2 ^ 31 by omega), cl_nI (show 30 * (16 * p + s) + i < 2 ^ 31 by omega), h4, h4', fn_X12_areSlotsAlike_b217, fn_X12_areSlotsAlike_b222, I, zo_s, if_true], pr⟩
      · obtain ⟨r, I, pr⟩ := no fun z => by
          have := z.1
          rw [h4, h4'] at this
          exact d01 this
        exact ⟨r, by simp only [fn_X12_areSlotsAlike_b119, rr_40, ra_40, rr_41, ra_41, ix_nI (show 16 * o + s < 960 by omega) (show 960 < 2 ^ 31 by omega), cl_nI (show 16 * o + s < 2 ^ 31 by omega), e40, if_neg ng, if_neg n0, l30, ix_nI (show 30 * (16 * o + s) + i < 28800 by omega) (show 28800 < 2 ^ 31 by omega), cl_nI (show 30 * (16 * o + s) + i < 2 ^ 31 by omega), ix_nI (show 30 * (16 * p + s) + i < 28800 by omega) (show 28800 < 2 ^ 31 by omega), cl_nI (show 30 * (16 * p + s) + i < 2 ^ 31 by omega), h4, h4', if_neg d01, fn_X12_areSlotsAlike_b221, fn_X12_areSlotsAlike_b222, I, zo_s, if_true], pr⟩
    · obtain ⟨b1, e42⟩ := il_le w ho hs e1 e2 hiN h4
      rcases (w.2.2.2.2.1 p s i hp hs' (by omega) e2' e1' hiM).1 with h4' | h4'
      · obtain ⟨r, I, pr⟩ := no fun z => by
          have := z.1
          rw [h4, h4'] at this
          exact d01 this.symm
        exact ⟨r, by simp only [fn_X12_areSlotsAlike_b119, rr_40, ra_40, rr_41, ra_41, ix_nI (show 16 * o + s < 960 by omega) (show 960 < 2 ^ 31 by omega), cl_nI (show 16 * o + s < 2 ^ 31 by omega), e40, if_neg ng, if_neg n0, l30, ix_nI (show 30 * (16 * o + s) + i < 28800 by omega) (show 28800 < 2 ^ 31 by omega), cl_nI (show 30 * (16 * o + s) + i < 2 ^ 31 by omega), ix_nI (show 30 * (16 * p + s) + i < 28800 by omega) (show 28800 < 2 ^ 31 by omega), cl_nI (show 30 * (16 * p + s) + i < 2 ^ 31 by omega), h4, h4', if_neg one0, fn_X12_areSlotsAlike_b221, fn_X12_areSlotsAlike_b222, I, zo_s, if_true], pr⟩
      · obtain ⟨b2, e42'⟩ := il_le w hp hs' e1' e2' hiM h4'
        by_cases el : mz_il rs (30 * (16 * o + s) + i) = mz_il rs (30 * (16 * p + s) + i)
        · have eq : nI (mz_il rs (30 * (16 * o + s) + i)) = nI (mz_il rs (30 * (16 * p + s) + i)) := congrArg nI el
          obtain ⟨r1, J, p1⟩ := rs_cellsLike' (rs := rs) (a := 16 * o + s) (b := 16 * p + s) (F := 30 * i) (N := mz_il rs (30 * (16 * o + s) + i)) q sz (by omega) (by omega) (by omega)
          rcases p1.one with ⟨n1, q1, -⟩ | ⟨r0, q1⟩
          · obtain ⟨r, I, pr⟩ := yes ⟨h4.trans h4'.symm, fun _ => ⟨el, q1⟩⟩
            exact ⟨r, by simp only [fn_X12_areSlotsAlike_b119, rr_40, ra_40, rr_41, ra_41, rr_42, ra_42, ix_nI (show 16 * o + s < 960 by omega) (show 960 < 2 ^ 31 by omega), cl_nI (show 16 * o + s < 2 ^ 31 by omega), e40, if_neg ng, if_neg n0, l30, ix_nI (show 30 * (16 * o + s) + i < 28800 by omega) (show 28800 < 2 ^ 31 by omega), cl_nI (show 30 * (16 * o + s) + i < 2 ^ 31 by omega), ix_nI (show 30 * (16 * p + s) + i < 28800 by omega) (show 28800 < 2 ^ 31 by omega), cl_nI (show 30 * (16 * p + s) + i < 2 ^ 31 by omega), h4, h4', if_neg one0, e42, e42', if_pos eq, mz_RH_is, l30' i, J, if_neg n1, fn_X12_areSlotsAlike_b217, fn_X12_areSlotsAlike_b222, I, zo_s, zc_t, zl_0, if_true], pr⟩
          · obtain ⟨r, I, pr⟩ := no fun z => q1 (z.2 h4).2
            exact ⟨r, by simp only [fn_X12_areSlotsAlike_b119, rr_40, ra_40, rr_41, ra_41, rr_42, ra_42, ix_nI (show 16 * o + s < 960 by omega) (show 960 < 2 ^ 31 by omega), cl_nI (show 16 * o + s < 2 ^ 31 by omega), e40, if_neg ng, if_neg n0, l30, ix_nI (show 30 * (16 * o + s) + i < 28800 by omega) (show 28800 < 2 ^ 31 by omega), cl_nI (show 30 * (16 * o + s) + i < 2 ^ 31 by omega), ix_nI (show 30 * (16 * p + s) + i < 28800 by omega) (show 28800 < 2 ^ 31 by omega), cl_nI (show 30 * (16 * p + s) + i < 2 ^ 31 by omega), h4, h4', if_neg one0, e42, e42', if_pos eq, mz_RH_is, l30' i, J, if_pos r0, fn_X12_areSlotsAlike_b221, fn_X12_areSlotsAlike_b222, I, zo_s, zc_t, zl_0, if_true], pr⟩
        · have ne : ¬ nI (mz_il rs (30 * (16 * o + s) + i)) = nI (mz_il rs (30 * (16 * p + s) + i)) := fun q => el ((nI_eq (by omega) (by omega)).mp q)
          obtain ⟨r, I, pr⟩ := no fun z => el (z.2 h4).1
          exact ⟨r, by simp only [fn_X12_areSlotsAlike_b119, rr_40, ra_40, rr_41, ra_41, rr_42, ra_42, ix_nI (show 16 * o + s < 960 by omega) (show 960 < 2 ^ 31 by omega), cl_nI (show 16 * o + s < 2 ^ 31 by omega), e40, if_neg ng, if_neg n0, l30, ix_nI (show 30 * (16 * o + s) + i < 28800 by omega) (show 28800 < 2 ^ 31 by omega), cl_nI (show 30 * (16 * o + s) + i < 2 ^ 31 by omega), ix_nI (show 30 * (16 * p + s) + i < 28800 by omega) (show 28800 < 2 ^ 31 by omega), cl_nI (show 30 * (16 * p + s) + i < 2 ^ 31 by omega), h4, h4', if_neg one0, e42, e42', if_neg ne, fn_X12_areSlotsAlike_b221, fn_X12_areSlotsAlike_b222, I, zo_s, if_true], pr⟩
theorem rs_slotLike (q sz : Nat) (w : mz_wo n m rs) {o p s : Nat} (ho : o < m) (hp : p < m) (hs : s < mz_sl rs o) (hs' : s < mz_sl rs p) : ∃ r, fn_X12_areSlotsAlike (mz_RH q sz rs) (some q) (nI (16 * o + s)) (nI (16 * p + s)) = some (r, mz_RH q sz rs, 0, 0) ∧ al_P (al_sl rs (16 * o + s) (16 * p + s)) r := by
  obtain ⟨h30, e40⟩ := rl_le w ho hs
  obtain ⟨h30', e40'⟩ := rl_le w hp hs'
  have h16 := (mz_sl_le w ho).1
  have h16' := (mz_sl_le w hp).1
  have hm := w.1
  have d01 : ¬ (0 : Int32) = 1 := by decide
  by_cases a35 : rs.2.1 35 (16 * o + s) = rs.2.1 35 (16 * p + s)
  case neg => exact ⟨0, by simp only [fn_X12_areSlotsAlike, rr_35, ra_35, ix_nI (show 16 * o + s < 960 by omega) (show 960 < 2 ^ 31 by omega), cl_nI (show 16 * o + s < 2 ^ 31 by omega), ix_nI (show 16 * p + s < 960 by omega) (show 960 < 2 ^ 31 by omega), cl_nI (show 16 * p + s < 2 ^ 31 by omega), if_neg a35, zo_s, zc_t, zl_0, zr_e, z_0, z_1, if_true], al_P.no fun z => a35 z.1⟩
  by_cases a36 : rs.2.1 36 (16 * o + s) = rs.2.1 36 (16 * p + s)
  case neg => exact ⟨0, by simp only [fn_X12_areSlotsAlike, rr_35, ra_35, rr_36, ra_36, ix_nI (show 16 * o + s < 960 by omega) (show 960 < 2 ^ 31 by omega), cl_nI (show 16 * o + s < 2 ^ 31 by omega), ix_nI (show 16 * p + s < 960 by omega) (show 960 < 2 ^ 31 by omega), cl_nI (show 16 * p + s < 2 ^ 31 by omega), if_pos a35, if_neg a36, zo_s, zc_t, zl_0, zr_e, z_0, z_1, if_true], al_P.no fun z => a36 z.2.1⟩
  by_cases a37 : rs.2.1 37 (16 * o + s) = rs.2.1 37 (16 * p + s)
  case neg => exact ⟨0, by simp only [fn_X12_areSlotsAlike, rr_35, ra_35, rr_36, ra_36, rr_37, ra_37, ix_nI (show 16 * o + s < 960 by omega) (show 960 < 2 ^ 31 by omega), cl_nI (show 16 * o + s < 2 ^ 31 by omega), ix_nI (show 16 * p + s < 960 by omega) (show 960 < 2 ^ 31 by omega), cl_nI (show 16 * p + s < 2 ^ 31 by omega), if_pos a35, if_pos a36, if_neg a37, zo_s, zc_t, zl_0, zr_e, z_0, z_1, if_true], al_P.no fun z => a37 z.2.2.1⟩
  by_cases a39 : rs.2.1 39 (16 * o + s) = rs.2.1 39 (16 * p + s)
  case neg => exact ⟨0, by simp only [fn_X12_areSlotsAlike, rr_35, ra_35, rr_36, ra_36, rr_37, ra_37, rr_39, ra_39, ix_nI (show 16 * o + s < 960 by omega) (show 960 < 2 ^ 31 by omega), cl_nI (show 16 * o + s < 2 ^ 31 by omega), ix_nI (show 16 * p + s < 960 by omega) (show 960 < 2 ^ 31 by omega), cl_nI (show 16 * p + s < 2 ^ 31 by omega), if_pos a35, if_pos a36, if_pos a37, if_neg a39, zo_s, zc_t, zl_0, zr_e, z_0, z_1, if_true], al_P.no fun z => a39 z.2.2.2.1⟩
  rcases (w.2.2.2.1 o s ho hs).2.2.2.1 with h9 | h9
  · refine ⟨1, ?_, al_P.yes ⟨a35, a36, a37, a39, fun z => by rw [h9] at z; exact absurd z d01⟩⟩
    simp only [fn_X12_areSlotsAlike, rr_35, ra_35, rr_36, ra_36, rr_37, ra_37, rr_39, ra_39, ix_nI (show 16 * o + s < 960 by omega) (show 960 < 2 ^ 31 by omega), cl_nI (show 16 * o + s < 2 ^ 31 by omega), ix_nI (show 16 * p + s < 960 by omega) (show 960 < 2 ^ 31 by omega), cl_nI (show 16 * p + s < 2 ^ 31 by omega), if_pos a35, if_pos a36, if_pos a37, if_pos a39, if_pos h9, zo_s, zc_t, zl_0, zr_e, z_0, z_1, if_true]
  have n9 : ¬ rs.2.1 39 (16 * o + s) = 0 := by rw [h9]; decide
  have h9' : rs.2.1 39 (16 * p + s) = 1 := a39 ▸ h9
  by_cases er : mz_rl rs (16 * o + s) = mz_rl rs (16 * p + s)
  case neg =>
    have ne : ¬ rs.2.1 40 (16 * o + s) = rs.2.1 40 (16 * p + s) := fun q => er (by unfold mz_rl; rw [q])
    refine ⟨0, ?_, al_P.no fun z => er (z.2.2.2.2 h9).1⟩
    simp only [fn_X12_areSlotsAlike, rr_35, ra_35, rr_36, ra_36, rr_37, ra_37, rr_39, ra_39, rr_40, ra_40, ix_nI (show 16 * o + s < 960 by omega) (show 960 < 2 ^ 31 by omega), cl_nI (show 16 * o + s < 2 ^ 31 by omega), ix_nI (show 16 * p + s < 960 by omega) (show 960 < 2 ^ 31 by omega), cl_nI (show 16 * p + s < 2 ^ 31 by omega), if_pos a35, if_pos a36, if_pos a37, if_pos a39, if_neg n9, if_neg ne, zo_s, zc_t, zl_0, zr_e, z_0, z_1, if_true]
  have eq : rs.2.1 40 (16 * o + s) = rs.2.1 40 (16 * p + s) := by rw [e40, e40', er]
  by_cases h2 : rs.2.1 37 (16 * o + s) = 2
  · have h2' : rs.2.1 37 (16 * p + s) = 2 := a37 ▸ h2
    have l2 : 2 ≤ rs.2.1 37 (16 * o + s) := by rw [h2]; decide
    obtain ⟨r, I, p0⟩ := rs_inLike q sz w ho hp hs hs' h9 h9' h2 h2' er (mz_rl rs (16 * o + s)) 0 1001 1 (by omega) (by omega) (al_P.yes fun c hc => absurd hc (by omega))
    have I' : fn_X12_areSlotsAlike_b119 1001 (mz_RH q sz rs) (some q) (nI (16 * o + s)) (nI (16 * p + s)) 1 0 = some (r, mz_RH q sz rs, 0, 0) := I
    refine ⟨r, ?_, p0.iff ⟨fun z => ⟨a35, a36, a37, a39, fun _ => ⟨er, fun n2 => absurd h2 n2, fun _ => z⟩⟩, fun z => (z.2.2.2.2 h9).2.2 h2⟩⟩
    simp only [fn_X12_areSlotsAlike, rr_35, ra_35, rr_36, ra_36, rr_37, ra_37, rr_39, ra_39, rr_40, ra_40, ix_nI (show 16 * o + s < 960 by omega) (show 960 < 2 ^ 31 by omega), cl_nI (show 16 * o + s < 2 ^ 31 by omega), ix_nI (show 16 * p + s < 960 by omega) (show 960 < 2 ^ 31 by omega), cl_nI (show 16 * p + s < 2 ^ 31 by omega), if_pos a35, if_pos a36, if_pos a37, if_pos a39, if_neg n9, if_pos eq, if_pos l2, I', zo_s, if_true]
  · have l2 : ¬ 2 ≤ rs.2.1 37 (16 * o + s) := by
      obtain ⟨dd, hd, ed⟩ := (w.2.2.2.1 o s ho hs).2.2.1
      rw [ed] at h2 ⊢
      rcases (show dd = 0 ∨ dd = 1 ∨ dd = 2 by omega) with rfl | rfl | rfl
      · decide
      · decide
      · exact absurd rfl h2
    obtain ⟨r, J, p0⟩ := rs_cellsLike' (rs := rs) (a := 16 * o + s) (b := 16 * p + s) (F := 0) (N := mz_rl rs (16 * o + s)) q sz (by omega) (by omega) (by omega)
    have J' : fn_X12_areCellsAlike (mz_RH q sz rs) (some q) (nI (16 * o + s)) (nI (16 * p + s)) 0 (nI (mz_rl rs (16 * o + s))) = some (r, mz_RH q sz rs, 0, 0) := J
    refine ⟨r, ?_, p0.iff ⟨fun z => ⟨a35, a36, a37, a39, fun _ => ⟨er, fun _ c hc => ?_, fun q => absurd q h2⟩⟩, fun z c hc => ?_⟩⟩
    · simp only [fn_X12_areSlotsAlike, rr_35, ra_35, rr_36, ra_36, rr_37, ra_37, rr_39, ra_39, rr_40, ra_40, ix_nI (show 16 * o + s < 960 by omega) (show 960 < 2 ^ 31 by omega), cl_nI (show 16 * o + s < 2 ^ 31 by omega), ix_nI (show 16 * p + s < 960 by omega) (show 960 < 2 ^ 31 by omega), cl_nI (show 16 * p + s < 2 ^ 31 by omega), if_pos a35, if_pos a36, if_pos a37, if_pos a39, if_neg n9, if_pos eq, if_neg l2, e40, mz_RH_is, J', p0.bit, zo_s, zc_t, zl_0, zr_e, z_0, z_1, if_true]
      rw [if_pos (e40.symm.trans eq)]
    · have := z c hc
      rw [Nat.zero_add] at this
      exact this
    · rw [Nat.zero_add]
      exact (z.2.2.2.2 h9).2.1 h2 c hc
theorem rs_obLike (q sz : Nat) (w : mz_wo n m rs) {o p : Nat} (ho : o < m) (hp : p < m) (es : mz_sl rs o = mz_sl rs p) (a33 : rs.2.1 33 o = rs.2.1 33 p) : ∀ (d i f : Nat) (x : Int32), i + d = mz_sl rs o → d < f → al_P (∀ s, s < i → al_sl rs (16 * o + s) (16 * p + s)) x → ∃ r, fn_X12_alike_b57 f (mz_RH q sz rs) (some q) (nI o) (nI p) x (nI i) = some (r, mz_RH q sz rs, 0, 0) ∧ al_P (al_ob rs o p) r := by
  obtain ⟨h16, e34⟩ := mz_sl_le w ho
  have h16' := (mz_sl_le w hp).1
  have hm := w.1
  intro d
  induction d with
  | zero =>
    intro i f x hi hf p0
    obtain ⟨f, rfl⟩ : ∃ g', f = g' + 1 := ⟨f - 1, by omega⟩
    have e : i = mz_sl rs o := by omega
    subst e
    rcases p0.one with ⟨n0, q0, -⟩ | ⟨r0, q0⟩
    · exact ⟨1, by simp only [fn_X12_alike_b57, rr_34, ra_34, ix_nI (show o < 60 by omega) (show 60 < 2 ^ 31 by omega), cl_nI (show o < 2 ^ 31 by omega), e34, if_pos (Int32.le_refl _), fn_X12_alike_b97, if_neg n0, zo_s, zc_t, zl_0, zr_e, z_0, z_1, if_true], al_P.yes ⟨a33, es, q0⟩⟩
    · exact ⟨0, by simp only [fn_X12_alike_b57, rr_34, ra_34, ix_nI (show o < 60 by omega) (show 60 < 2 ^ 31 by omega), cl_nI (show o < 2 ^ 31 by omega), e34, if_pos (Int32.le_refl _), fn_X12_alike_b97, if_pos r0, zo_s, zc_t, zl_0, zr_e, z_0, z_1, if_true], al_P.no fun z => q0 z.2.2⟩
  | succ d ih =>
    intro i f x hi hf p0
    obtain ⟨f, rfl⟩ : ∃ g', f = g' + 1 := ⟨f - 1, by omega⟩
    have hiN : i < mz_sl rs o := by omega
    have hiM : i < mz_sl rs p := by omega
    have ng := nI_ge hiN (show mz_sl rs o < 2 ^ 31 by omega)
    rcases p0.one with ⟨n0, q0, -⟩ | ⟨r0, q0⟩
    case inr => exact ⟨0, by simp only [fn_X12_alike_b57, rr_34, ra_34, ix_nI (show o < 60 by omega) (show 60 < 2 ^ 31 by omega), cl_nI (show o < 2 ^ 31 by omega), e34, if_neg ng, if_pos r0, fn_X12_alike_b97, zo_s, zc_t, zl_0, zr_e, z_0, z_1, if_true], al_P.no fun z => q0 fun c hc => z.2.2 c (by omega)⟩
    obtain ⟨r1, J, p1⟩ := rs_slotLike q sz w ho hp hiN hiM
    obtain ⟨r, I, pr⟩ := ih (i + 1) f r1 (by omega) (by omega) (p1.iff ⟨fun z c hc => by
        rcases (show c = i ∨ c < i by omega) with rfl | h3
        · exact z
        · exact q0 c h3, fun z => z i (by omega)⟩)
    rw [show nI (i + 1) = nI i + 1 from (nI_add i 1).symm] at I
    exact ⟨r, by simp only [fn_X12_alike_b57, rr_34, ra_34, ix_nI (show o < 60 by omega) (show 60 < 2 ^ 31 by omega), cl_nI (show o < 2 ^ 31 by omega), e34, if_neg ng, if_neg n0, mz_RH_is, l16, J, I, zo_s, zc_t, zl_0, if_true], pr⟩
end
theorem k_alike {VB o q l : Nat} {rs : mz_RS} {h : mz_H} (H : mz_In VB o (l + 1) rs h) (x y : Int32) : mz_Ok VB o q l rs (fun h => fn_X11_alike h (some o) x y) (fun h => fn_X12_alike h (some q) x y) h := by
  obtain ⟨n, m, ad, lv, mk, mm, gi, go, gj, hR, w⟩ := id H
  obtain ⟨wc, wm, wo, wt, wl, wq, wa, wv⟩ := id w
  obtain rfl : ad (1, 0, 0, 0) = o := wa
  have hn40 := wc.1
  have hm60 := wo.1
  rcases mz_no x (show m < 2 ^ 31 by omega) with hx | ⟨o, ho, rfl⟩
  · refine mz_Ok.same H (-1) ?_ (by simp only [fn_X12_alike, mz_RH_is, rs_isObject_no q h.2 wo.2.1 hx, zo_s, zc_t, zl_0, zr_e, z_0, z_1, if_true])
    rcases mz_no y (show m < 2 ^ 31 by omega) with hy | ⟨p, hp, rfl⟩
    · simp only [fn_X11_alike, ci_1 hR, cs_thingOf_no hR hx, cs_thingOf_no hR hy, zo_s, zc_t, zl_0, zr_e, z_0, z_1, if_true]
    · simp only [fn_X11_alike, ci_1 hR, cs_thingOf_no hR hx, cs_thingOf hR wo.1 hp, zo_s, zc_t, zl_0, zr_e, z_0, z_1, if_true]
  have RO := fun {o : Nat} (ho : o < m) => rs_isObject (rs := rs) q h.2 wo.2.1 wo.1 ho
  rcases mz_no y (show m < 2 ^ 31 by omega) with hy | ⟨p, hp, rfl⟩
  · exact mz_Ok.same H (-1) (by simp only [fn_X11_alike, ci_1 hR, cs_thingOf hR wo.1 ho, cs_thingOf_no hR hy, if_neg smn, zo_s, zc_t, zl_0, zr_e, z_0, z_1, if_true]) (by simp only [fn_X12_alike, mz_RH_is, RO ho, if_neg one0, rs_isObject_no q h.2 wo.2.1 hy, zo_s, zc_t, zl_0, zr_e, z_0, z_1, if_true])
  obtain ⟨h16, e34⟩ := mz_sl_le wo ho
  obtain ⟨h16', e34'⟩ := mz_sl_le wo hp
  obtain ⟨r, I, p0⟩ := cs_thingLike hR wo ho hp
  refine mz_Ok.same H r ?_ ?_
  · rcases p0.one with ⟨n0, -, rfl⟩ | ⟨rfl, -⟩
    · simp only [fn_X11_alike, ci_1 hR, cs_thingOf hR wo.1 ho, cs_thingOf hR wo.1 hp, if_neg smn, ci_17 hR ho, I, if_neg n0, zo_s, zc_t, zl_0, zr_e, z_0, z_1, if_true]
    · simp only [fn_X11_alike, ci_1 hR, cs_thingOf hR wo.1 ho, cs_thingOf hR wo.1 hp, if_neg smn, ci_17 hR ho, I, zo_s, zc_t, zl_0, zr_e, z_0, z_1, if_true]
  have no : ∀ f, ¬ al_ob rs o p → fn_X12_alike_b57 (f + 1) (mz_RH q h.2 rs) (some q) (nI o) (nI p) 0 0 = some (r, mz_RH q h.2 rs, 0, 0) := fun f na => by
    rcases p0.one with ⟨-, z, -⟩ | ⟨rfl, -⟩
    · exact absurd z na
    · by_cases hz : nI (mz_sl rs o) ≤ 0
      · simp only [fn_X12_alike_b57, rr_34, ra_34, ix_nI (show o < 60 by omega) (show 60 < 2 ^ 31 by omega), cl_nI (show o < 2 ^ 31 by omega), e34, if_pos hz, fn_X12_alike_b97, zo_s, zc_t, zl_0, zr_e, z_0, z_1, if_true]
      · simp only [fn_X12_alike_b57, rr_34, ra_34, ix_nI (show o < 60 by omega) (show 60 < 2 ^ 31 by omega), cl_nI (show o < 2 ^ 31 by omega), e34, if_neg hz, fn_X12_alike_b97, zo_s, zc_t, zl_0, zr_e, z_0, z_1, if_true]
  by_cases a33 : rs.2.1 33 o = rs.2.1 33 p
  · by_cases es : mz_sl rs o = mz_sl rs p
    · have eq : nI (mz_sl rs o) = nI (mz_sl rs p) := congrArg nI es
      obtain ⟨r2, J, p2⟩ := rs_obLike q h.2 wo ho hp es a33 (mz_sl rs o) 0 1001 1 (by omega) (by omega) (al_P.yes fun c hc => absurd hc (by omega))
      rw [p2.eq p0] at J
      have J' : fn_X12_alike_b57 1001 (mz_RH q h.2 rs) (some q) (nI o) (nI p) 1 0 = some (r, mz_RH q h.2 rs, 0, 0) := J
      simp only [fn_X12_alike, mz_RH_is, RO ho, RO hp, if_neg one0, rr_33, ra_33, rr_34, ra_34, ix_nI (show o < 60 by omega) (show 60 < 2 ^ 31 by omega), cl_nI (show o < 2 ^ 31 by omega), ix_nI (show p < 60 by omega) (show 60 < 2 ^ 31 by omega), cl_nI (show p < 2 ^ 31 by omega), if_pos a33, e34, e34', if_pos eq, fn_X12_alike_b53, J', zo_s, zc_t, zl_0, if_true]
    · have ne : ¬ nI (mz_sl rs o) = nI (mz_sl rs p) := fun q => es ((nI_eq (by omega) (by omega)).mp q)
      have J' := no 1000 (fun z => es z.2.1)
      simp only [fn_X12_alike, mz_RH_is, RO ho, RO hp, if_neg one0, rr_33, ra_33, rr_34, ra_34, ix_nI (show o < 60 by omega) (show 60 < 2 ^ 31 by omega), cl_nI (show o < 2 ^ 31 by omega), ix_nI (show p < 60 by omega) (show 60 < 2 ^ 31 by omega), cl_nI (show p < 2 ^ 31 by omega), if_pos a33, e34, e34', if_neg ne, fn_X12_alike_b52, fn_X12_alike_b53, J', zo_s, zc_t, zl_0, if_true]
  · have J' := no 1000 (fun z => a33 z.1)
    simp only [fn_X12_alike, mz_RH_is, RO ho, RO hp, if_neg one0, rr_33, ra_33, ix_nI (show o < 60 by omega) (show 60 < 2 ^ 31 by omega), cl_nI (show o < 2 ^ 31 by omega), ix_nI (show p < 60 by omega) (show 60 < 2 ^ 31 by omega), cl_nI (show p < 2 ^ 31 by omega), if_neg a33, fn_X12_alike_b52, fn_X12_alike_b53, J', zo_s, zc_t, zl_0, if_true]

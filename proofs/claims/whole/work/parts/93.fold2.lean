/-! fold: the loop and the call -/
def fo_J (x1 : Int32) (c a3 a5 a7 a9 : Nat) (J : Int64) : Prop := (x1 = 1 → c ≠ 0 → J = lN a3) ∧ (x1 = 2 → c ≠ 0 → J = lN a5) ∧ (x1 = 3 → J = lN a7) ∧ (x1 = 4 → J = lN a9)
def fo_I (c a3 a5 a7 a9 : Nat) : Prop := a3 < 2 ^ 64 ∧ a5 < 2 ^ 64 ∧ a7 < 2 ^ 64 ∧ a9 < 2 ^ 64 ∧ (c ≠ 0 → b_E a3 ≠ 2047) ∧ (c ≠ 0 → b_E a5 ≠ 2047) ∧ ¬ b_nan a7 ∧ ¬ b_nan a9 ∧ a7 ≠ 2 ^ 63 ∧ a9 ≠ 2 ^ 63 ∧ (c = 0 → a7 = 0 ∧ a9 = 0)
/-- what the class keeps in isChosen -/
def fo_x (j : Nat) : Int32 := if j = 1 then 1 else if j = 2 then 1 else 0
theorem fo_class (h : mz_H) {j c a3 a5 a7 a9 N w a7' a9' : Nat} {J : Int64} (hj : j < 5) (hc : c < 2 ^ 31) (h3 : a3 < 2 ^ 64) (h5 : a5 < 2 ^ 64) (hN : N < 2 ^ 64) (hJ : fo_J (nI j) c a3 a5 a7 a9 J)
    (S7 : fn_X3_sum h (lN a7) (lN N) = some (lN a7', h, 0, 0)) (Sw : fn_X3_nearestWhole h (lN N) = some (lN w, h, 0, 0)) (S9 : fn_X3_sum h (lN a9) (lN w) = some (lN a9', h, 0, 0)) :
    ∃ J', (if fo_x j = 0 then fn_X0_joined h (nI j) J (lN N) else if nI c = 0 then some (lN N, h, 0, 0) else fn_X0_joined h (nI j) J (lN N)) = some (J', h, 0, 0) ∧ fo_J (nI j) (c + 1) (fo_l c a3 N) (fo_g c a5 N) a7' a9' J' := by
  obtain ⟨J1, J2, J3, J4⟩ := hJ
  rcases (show j = 0 ∨ j = 1 ∨ j = 2 ∨ j = 3 ∨ j = 4 by omega) with rfl | rfl | rfl | rfl | rfl
  · refine ⟨J, ?_, fun e => absurd e (by decide), fun e => absurd e (by decide), fun e => absurd e (by decide), fun e => absurd e (by decide)⟩
    rw [if_pos (show fo_x 0 = 0 by decide)]
    rfl
  · refine ⟨lN (fo_l c a3 N), ?_, fun _ _ => rfl, fun e => absurd e (by decide), fun e => absurd e (by decide), fun e => absurd e (by decide)⟩
    unfold fo_l
    rw [if_neg (show ¬ fo_x 1 = 0 by decide)]
    by_cases z : c = 0
    · subst z
      rw [if_pos nI_0, if_pos rfl]
    · rw [if_neg (nI_ne0 (by omega) hc), if_neg z]
      show mz_call (fn_X3_isLess h (lN N) J) (fun v1 h => if v1 = 0 then mz_ret J h else mz_ret (lN N) h) = _
      rw [J1 rfl z, k_isLess h hN h3, zl_0]
      by_cases g : b_O N < b_O a3
      · rw [if_pos g, if_pos g, if_neg one0, zr_e]
      · rw [if_neg g, if_neg g, if_pos rfl, zr_e]
  · refine ⟨lN (fo_g c a5 N), ?_, fun e => absurd e (by decide), fun _ _ => rfl, fun e => absurd e (by decide), fun e => absurd e (by decide)⟩
    unfold fo_g
    rw [if_neg (show ¬ fo_x 2 = 0 by decide)]
    by_cases z : c = 0
    · subst z
      rw [if_pos nI_0, if_pos rfl]
    · rw [if_neg (nI_ne0 (by omega) hc), if_neg z]
      show mz_call (fn_X3_isLess h J (lN N)) (fun v1 h => if v1 = 0 then mz_ret J h else mz_ret (lN N) h) = _
      rw [J2 rfl z, k_isLess h h5 hN, zl_0]
      by_cases g : b_O a5 < b_O N
      · rw [if_pos g, if_pos g, if_neg one0, zr_e]
      · rw [if_neg g, if_neg g, if_pos rfl, zr_e]
  · refine ⟨lN a7', ?_, fun e => absurd e (by decide), fun e => absurd e (by decide), fun _ => rfl, fun e => absurd e (by decide)⟩
    rw [if_pos (show fo_x 3 = 0 by decide)]
    show mz_call (fn_X3_sum h J (lN N)) (fun v1 h => mz_ret v1 h) = _
    rw [J3 rfl, S7, zl_0, zr_e]
  · refine ⟨lN a9', ?_, fun e => absurd e (by decide), fun e => absurd e (by decide), fun e => absurd e (by decide), fun _ => rfl⟩
    rw [if_pos (show fo_x 4 = 0 by decide)]
    unfold fn_X0_joined
    simp only [if_neg (show ¬ nI 4 = 1 by decide), if_neg (show ¬ nI 4 = 2 by decide), if_neg (show ¬ nI 4 = 3 by decide), if_pos (show nI 4 = 4 from rfl), J4 rfl, Sw, zl_0, S9, zr_e]
/-- a number taken, in the class's loop -/
theorem fo_take (rc : mz_H → (Option Nat) → Int32 → Int32 → Int32 → Int64 → Int32 → mz_Res Int64) (h : mz_H) (a0 : Option Nat) {x1 x2 x3 x6 : Int32} {J J' v : Int64}
    (C : (if x2 = 0 then fn_X0_joined h x1 J v else if x3 = 0 then some (v, h, 0, 0) else fn_X0_joined h x1 J v) = some (J', h, 0, 0)) :
    (if x2 = 0 then fn_X0_folded_b85 rc h a0 x1 x2 x3 J x6 v else if x3 = 0 then fn_X0_folded_b93 rc h a0 x1 x2 x3 x6 v else fn_X0_folded_b85 rc h a0 x1 x2 x3 J x6 v) = rc h a0 x1 x2 (x3 + 1) J' (x6 + 1) := by
  unfold fn_X0_folded_b85 fn_X0_folded_b93 fn_X0_folded_b98
  by_cases y : x2 = 0
  · rw [if_pos y] at C ⊢
    rw [C, zl_0, zo_s, zo_s]
  · rw [if_neg y] at C ⊢
    by_cases z : x3 = 0
    · rw [if_pos z] at C ⊢
      have e : v = J' := congrArg Prod.fst (Option.some.inj C)
      rw [zo_s, zo_s, e]
    · rw [if_neg z] at C ⊢
      rw [C, zl_0, zo_s, zo_s]
theorem fo_step (h h' : mz_H) {j c a3 a5 a7 a9 N : Nat} {J : Int64} (hj : j < 5) (hc : c < 1000) (hN : N < 2 ^ 64) (fN : b_E N ≠ 2047) (I : fo_I c a3 a5 a7 a9) (hJ : fo_J (nI j) c a3 a5 a7 a9 J) :
    ∃ J' b3 b5 b7 b9, fo_I (c + 1) b3 b5 b7 b9 ∧ fo_J (nI j) (c + 1) b3 b5 b7 b9 J' ∧ (if fo_x j = 0 then fn_X0_joined h (nI j) J (lN N) else if nI c = 0 then some (lN N, h, 0, 0) else fn_X0_joined h (nI j) J (lN N)) = some (J', h, 0, 0) ∧
      ∀ rc a0 x11, fn_X12_fold_b109 rc h' a0 (nI j) (nI c) (UInt64.ofNat a3) (UInt64.ofNat a5) (UInt64.ofNat a7) (UInt64.ofNat a9) x11 (UInt64.ofNat N) = rc h' a0 (nI j) (nI (c + 1)) (UInt64.ofNat b3) (UInt64.ofNat b5) (UInt64.ofNat b7) (UInt64.ofNat b9) (x11 + 1) := by
  obtain ⟨h3, h5, h7, h9, f3, f5, n7, n9, z7, z9, h0⟩ := I
  obtain ⟨a7', k7, nn7, zz7, S7, D7, m7⟩ := fo_sum h h7 hN n7 fN z7
  obtain ⟨w, w', hw, hw', fw, fw', W1, W2, We⟩ := fo_whole h h' hN fN
  obtain ⟨a9', k9, nn9, zz9, S9, D9, m9⟩ := fo_sum h h9 hw n9 fw z9
  obtain ⟨J', C1, C2⟩ := fo_class h hj (by omega) h3 h5 hN hJ S7 W1 S9
  refine ⟨J', _, _, a7', a9', ?_, C2, C1, fun rc a0 x11 => ?_⟩
  · refine ⟨?_, ?_, k7, k9, fun _ => ?_, fun _ => ?_, nn7, nn9, zz7, zz9, fun z => by omega⟩
    · unfold fo_l
      split
      · exact hN
      · split
        · exact hN
        · exact h3
    · unfold fo_g
      split
      · exact hN
      · split
        · exact hN
        · exact h5
    · unfold fo_l
      split
      · exact fN
      · split
        · exact fN
        · exact f3 (by assumption)
    · unfold fo_g
      split
      · exact fN
      · split
        · exact fN
        · exact f5 (by assumption)
  · rw [fo_109 rc h' a0 (nI j) (by omega) h3 h5 hN f3 f5 fN]
    unfold fn_X12_fold_b183 fn_X12_fold_b205
    rw [D7, m7, zc_t, zo_s, W2, zl_0, We a9 h9 n9 z9, D9, m9, zc_t, zo_s, zo_s, zo_s, nI_1]
theorem i2d_l (x : Int32) : FP.i2d x = FP.l2d x.toInt64 := by
  show UInt64.ofNat (FP.Core.encode FP.Core.b64 (FP.Core.round FP.Core.b64 (FP.Core.ofInt x.toInt))) = UInt64.ofNat (FP.Core.encode FP.Core.b64 (FP.Core.round FP.Core.b64 (FP.Core.ofInt x.toInt64.toInt)))
  rw [Int32.toInt_toInt64]
theorem fo_end (h h' : mz_H) {j c a3 a5 a7 a9 : Nat} {J : Int64} (hj : j < 5) (hc : c < 1000) (I : fo_I c a3 a5 a7 a9) (hJ : fo_J (nI j) c a3 a5 a7 a9 J) : ∃ r,
    (if nI j = 0 then mz_call (fn_X3_ofWhole h ((nI c : Int32).toInt64) 0) fun v2 h => mz_ret v2 h else if fo_x j = 0 then mz_ret J h else if nI c = 0 then mz_ret 9221120237041090560 h else mz_ret J h) = some (r, h, 0, 0) ∧
    (if nI j ≤ 0 then fn_X12_fold_b228 h' (nI j) (nI c) (UInt64.ofNat a3) (UInt64.ofNat a5) (UInt64.ofNat a7) (UInt64.ofNat a9) else if 3 ≤ nI j then fn_X12_fold_b228 h' (nI j) (nI c) (UInt64.ofNat a3) (UInt64.ofNat a5) (UInt64.ofNat a7) (UInt64.ofNat a9) else if nI c = 0 then mz_ret 9221120237041090560 h' else fn_X12_fold_b228 h' (nI j) (nI c) (UInt64.ofNat a3) (UInt64.ofNat a5) (UInt64.ofNat a7) (UInt64.ofNat a9)) = some (r, h', 0, 0) := by
  obtain ⟨J1, J2, J3, J4⟩ := hJ
  obtain ⟨h3, h5, h7, h9, f3, f5, n7, n9, z7, z9, h0⟩ := I
  rcases (show j = 0 ∨ j = 1 ∨ j = 2 ∨ j = 3 ∨ j = 4 by omega) with rfl | rfl | rfl | rfl | rfl
  · obtain ⟨r, r1, r2⟩ := (k_ofWhole h h' (nI c).toInt64).2
    refine ⟨r, ?_, ?_⟩
    · rw [if_pos (by decide), r1, zl_0, zr_e]
    · rw [if_pos (by decide)]
      show mz_call (fn_J_d2l h' (FP.i2d (nI c))) (fun v1 h => mz_ret v1 h) = _
      rw [i2d_l, r2, zl_0, zr_e]
  · rw [if_neg (show ¬ nI 1 = 0 by decide), if_neg (show ¬ fo_x 1 = 0 by decide), if_neg (show ¬ nI 1 ≤ 0 by decide), if_neg (show ¬ (3 : Int32) ≤ nI 1 by decide)]
    by_cases z : c = 0
    · subst z
      exact ⟨9221120237041090560, rfl, rfl⟩
    · refine ⟨lN a3, ?_, ?_⟩
      · rw [if_neg (nI_ne0 (by omega) (by omega)), J1 rfl z, zr_e]
      · rw [if_neg (nI_ne0 (by omega) (by omega))]
        show mz_call (fn_J_d2l h' (UInt64.ofNat a3)) (fun v1 h => mz_ret v1 h) = _
        rw [k_d2lN h' h3 (fo_nn2 (f3 z)), zl_0, zr_e]
  · rw [if_neg (show ¬ nI 2 = 0 by decide), if_neg (show ¬ fo_x 2 = 0 by decide), if_neg (show ¬ nI 2 ≤ 0 by decide), if_neg (show ¬ (3 : Int32) ≤ nI 2 by decide)]
    by_cases z : c = 0
    · subst z
      exact ⟨9221120237041090560, rfl, rfl⟩
    · refine ⟨lN a5, ?_, ?_⟩
      · rw [if_neg (nI_ne0 (by omega) (by omega)), J2 rfl z, zr_e]
      · rw [if_neg (nI_ne0 (by omega) (by omega))]
        show mz_call (fn_J_d2l h' (UInt64.ofNat a5)) (fun v1 h => mz_ret v1 h) = _
        rw [k_d2lN h' h5 (fo_nn2 (f5 z)), zl_0, zr_e]
  · rw [if_neg (by decide), if_pos (show fo_x 3 = 0 by decide), if_neg (by decide), if_pos (by decide)]
    refine ⟨lN a7, ?_, ?_⟩
    · rw [J3 rfl, zr_e]
    · show mz_call (fn_J_d2l h' (UInt64.ofNat a7)) (fun v1 h => mz_ret v1 h) = _
      rw [k_d2lN h' h7 n7, zl_0, zr_e]
  · rw [if_neg (by decide), if_pos (show fo_x 4 = 0 by decide), if_neg (by decide), if_pos (by decide)]
    refine ⟨lN a9, ?_, ?_⟩
    · rw [J4 rfl, zr_e]
    · show mz_call (fn_J_d2l h' (UInt64.ofNat a9)) (fun v1 h => mz_ret v1 h) = _
      rw [k_d2lN h' h9 n9, zl_0, zr_e]
/-- a cell of the column as both read it -/
theorem fo_cell (h : mz_H) (v : Int64) {l : Nat} (hl : l < 8) : ((nI l = 5 ∨ nI l = 6) ∧ fn_X3_widened h v (nI l) 6 = some (v, h, 0, 0)) ∨ (¬ nI l = 5 ∧ ¬ nI l = 6 ∧ fn_X3_widened h v (nI l) 6 = mz_call (fn_X3_ofWhole h v 0) fun v1 h => mz_ret v1 h) := by
  revert hl
  refine c8 (P := fun l => ((nI l = 5 ∨ nI l = 6) ∧ fn_X3_widened h v (nI l) 6 = some (v, h, 0, 0)) ∨ (¬ nI l = 5 ∧ ¬ nI l = 6 ∧ fn_X3_widened h v (nI l) 6 = mz_call (fn_X3_ofWhole h v 0) fun v1 h => mz_ret v1 h)) ?_ ?_ ?_ ?_ ?_ ?_ ?_ ?_
  · exact Or.inr ⟨by decide, by decide, rfl⟩
  · exact Or.inr ⟨by decide, by decide, rfl⟩
  · exact Or.inr ⟨by decide, by decide, rfl⟩
  · exact Or.inr ⟨by decide, by decide, rfl⟩
  · exact Or.inr ⟨by decide, by decide, rfl⟩
  · exact Or.inl ⟨Or.inl (by decide), rfl⟩
  · exact Or.inl ⟨Or.inr (by decide), rfl⟩
  · exact Or.inr ⟨by decide, by decide, rfl⟩
section
variable {VB : Nat} {n m : Nat} {rs : mz_RS} {ad : mz_T → Nat} {lv : Nat → Int32} {mk : Nat → Nat} {mm : Nat → Nat → Nat × Nat} {gi : Nat → Nat → Nat → Int32} {go : Nat → Nat → Option Nat} {gj : Nat → Nat → Int64} {h : mz_H}
theorem fo_loop (hR : mz_Rp VB n m rs ad lv mk mm gi go gj h) {cnt l j : Nat} (hcnt : cnt ≤ 60) (e46 : rs.1 46 = nI cnt) (hgj : ∀ i, i < cnt → gj 0 i = rs.2.2 47 i) (hl : l < 8) (e45 : rs.1 45 = nI l) (hj : j < 5) (q sz : Nat) : ∀ (d x f g c a3 a5 a7 a9 : Nat) (J : Int64), x + d = cnt → d < f → d < g → c ≤ x → fo_I c a3 a5 a7 a9 → fo_J (nI j) c a3 a5 a7 a9 J →
    ∃ r, fn_X0_folded_b37 f h (some (ad (25, 0, 0, 0))) (nI j) (fo_x j) (nI c) J (nI x) = some (r, h, 0, 0) ∧ fn_X12_fold_b29 g (mz_RH q sz rs) (some q) (nI j) (nI c) (UInt64.ofNat a3) (UInt64.ofNat a5) (UInt64.ofNat a7) (UInt64.ofNat a9) (nI x) = some (r, mz_RH q sz rs, 0, 0) := by
  have z2 : (0 : Nat) < 2 := by decide
  have g1 : mz_fI h (some (ad (25, 0, 0, 0))) 0 1 = some (nI cnt) := by rw [cg_25_1 hR z2, if_pos rfl, e46]
  have g2 : mz_fI h (some (ad (25, 0, 0, 0))) 0 2 = some (nI l) := by rw [cg_25_2 hR z2, if_pos rfl, e45]
  have r45 : mz_fI (mz_RH q sz rs) (some q) 11 45 = some (nI l) := by rw [rg_45, e45]
  have r46 : mz_fI (mz_RH q sz rs) (some q) 11 46 = some (nI cnt) := by rw [rg_46, e46]
  intro d
  induction d with
  | zero =>
    intro x f g c a3 a5 a7 a9 J hx hf hg hc I hJ
    obtain ⟨f, rfl⟩ : ∃ g', f = g' + 1 := ⟨f - 1, by omega⟩
    obtain ⟨g, rfl⟩ : ∃ g', g = g' + 1 := ⟨g - 1, by omega⟩
    have hle : nI cnt ≤ nI x := nI_le (by omega) (by omega)
    obtain ⟨r, e1, e2⟩ := fo_end h (mz_RH q sz rs) hj (by omega) I hJ
    refine ⟨r, ?_, ?_⟩
    · rw [fn_X0_folded_b37, g1, zo_s, if_pos hle]
      exact e1
    · rw [fn_X12_fold_b29, r46, zo_s, if_pos hle]
      exact e2
  | succ d ih =>
    intro x f g c a3 a5 a7 a9 J hx hf hg hc I hJ
    obtain ⟨f, rfl⟩ : ∃ g', f = g' + 1 := ⟨f - 1, by omega⟩
    obtain ⟨g, rfl⟩ : ∃ g', g = g' + 1 := ⟨g - 1, by omega⟩
    have hle : ¬ nI cnt ≤ nI x := nI_ge (by omega) (by omega)
    have c47 : mz_aJ h (some (ad (26, 0, 0, 0))) (nI x) = some (rs.2.2 47 x) := by
      rw [ca_26 hR z2, ix_nI (show x < 60 by omega) (show 60 < 2 ^ 31 by omega), cl_nI (show x < 2 ^ 31 by omega), if_pos rfl]
      exact congrArg some (hgj x (by omega))
    have r47 : mz_aJ (mz_RH q sz rs) (some (q + 30)) (nI x) = some (rs.2.2 47 x) := by
      rw [ra_47, ix_nI (show x < 60 by omega) (show 60 < 2 ^ 31 by omega), cl_nI (show x < 2 ^ 31 by omega), if_pos rfl]
    generalize rs.2.2 47 x = v at c47 r47
    rw [fn_X0_folded_b37, fn_X12_fold_b29, g1, zo_s, if_neg hle, r46, zo_s, if_neg hle, cg_25_0 hR z2, zo_s, c47, zo_s, g2, zo_s, r45, zo_s, zo_s]
    rcases fo_cell h v hl with ⟨hreal, hw⟩ | ⟨n5, n6, hw⟩
    · obtain ⟨N, hN, rfl⟩ := u_all v
      have hb : ∀ (A B C : mz_Res Int64), A = B → (if nI l = 5 then A else if nI l = 6 then B else C) = B := by
        intro A B C e
        rcases hreal with z | z
        · rw [if_pos z, e]
        · rw [if_pos z]
          split
          · exact e
          · rfl
      rw [hb _ _ _ rfl, hw, zl_0, k_finite h hN, zl_0]
      unfold fn_X12_fold_b55 fn_X12_fold_b60
      rw [if_neg one0, rr_47, zo_s, r47, zo_s, k_finite2 _ hN, zl_0]
      by_cases fN : b_E N = 2047
      · rw [if_pos fN, if_pos rfl, if_pos rfl]
        unfold fn_X0_folded_b98 fn_X12_fold_b205
        rw [zo_s, zo_s, nI_1]
        exact ih (x + 1) f g c a3 a5 a7 a9 J (by omega) (by omega) (by omega) (by omega) I hJ
      · rw [if_neg fN, if_neg one0, if_neg one0]
        obtain ⟨J', b3, b5, b7, b9, I', hJ', C, R⟩ := fo_step h (mz_RH q sz rs) hj (show c < 1000 by omega) hN fN I hJ
        unfold fn_X12_fold_b83
        rw [if_neg one0, rr_47, zo_s, r47, zo_s, snl_ok hN (fo_nn2 fN), show (!false) = true from rfl, zc_t, u_nat, R, nI_1]
        obtain ⟨r, e1, e2⟩ := ih (x + 1) f g (c + 1) b3 b5 b7 b9 J' (by omega) (by omega) (by omega) (by omega) I' hJ'
        refine ⟨r, ?_, e2⟩
        rw [← e1, fo_take _ h _ C, nI_1, nI_1]
    · obtain ⟨N, hN, fN, w1, w2⟩ := k_wholeD h v
      rw [if_neg n5, if_neg n6, hw, w1, zl_0, zr_e, zl_0, k_finite h hN, if_neg fN, zl_0, if_neg one0]
      obtain ⟨J', b3, b5, b7, b9, I', hJ', C, R⟩ := fo_step h (mz_RH q sz rs) hj (show c < 1000 by omega) hN fN I hJ
      unfold fn_X12_fold_b60 fn_X12_fold_b83
      rw [if_pos rfl, if_pos rfl, rr_47, zo_s, r47, zo_s, w2, R, nI_1]
      obtain ⟨r, e1, e2⟩ := ih (x + 1) f g (c + 1) b3 b5 b7 b9 J' (by omega) (by omega) (by omega) (by omega) I' hJ'
      refine ⟨r, ?_, e2⟩
      rw [← e1, fo_take _ h _ C, nI_1, nI_1]
end
theorem fo_in (h : mz_H) (a0 : Option Nat) {j : Nat} (hj : j < 5) (c1 : ¬ nI j < 0) (c3 : nI j ≤ 4) : fn_X0_folded h a0 (nI j) = fn_X0_folded_b37 1001 h a0 (nI j) (fo_x j) 0 0 0 := by
  unfold fn_X0_folded fn_X0_folded_b23 fn_X0_folded_b28
  rw [if_neg c1, if_pos c3]
  rcases (show j = 0 ∨ j = 1 ∨ j = 2 ∨ j = 3 ∨ j = 4 by omega) with rfl | rfl | rfl | rfl | rfl
  · rw [if_neg (by decide), if_neg (by decide), show fo_x 0 = 0 by decide]
  · rw [if_pos (by decide), show fo_x 1 = 1 by decide]
  · rw [if_neg (by decide), if_pos (by decide), show fo_x 2 = 1 by decide]
  · rw [if_neg (by decide), if_neg (by decide), show fo_x 3 = 0 by decide]
  · rw [if_neg (by decide), if_neg (by decide), show fo_x 4 = 0 by decide]
theorem k_fold {VB o q l : Nat} {rs : mz_RS} {h : mz_H} (H : mz_In VB o (l + 1) rs h) (x : Int32) : mz_Ok VB o q l rs (fun h => fn_X11_fold h (some o) x) (fun h => fn_X12_fold h (some q) x) h := by
  obtain ⟨n, m, ad, lv, mk, mm, gi, go, gj, hR, w⟩ := id H
  obtain ⟨wc, wm, wo, wt, wl, wq, wa, wv⟩ := id w
  obtain rfl : ad (1, 0, 0, 0) = o := wa
  have hn40 := wc.1
  have hm60 := wo.1
  have z2 : (0 : Nat) < 2 := by decide
  obtain ⟨⟨cnt, hcnt, e46, hgj⟩, ⟨l8, hl, e45⟩, -⟩ := wq
  rcases mz_arg x (show 5 < 2 ^ 31 by decide) with c1 | ⟨c1, c2⟩ | ⟨j, hj, rfl, c1, c2⟩
  · exact mz_Ok.same H 9221120237041090560 (by simp only [fn_X11_fold, fn_X0_folded, cg_1_5 hR, ci_25 hR z2, if_pos c1, zo_s, zc_t, zl_0, zr_e, z_0, z_1, if_true]) (by simp only [fn_X12_fold, rs_within, if_pos c1, zo_s, zc_t, zl_0, zr_e, z_0, z_1, if_true])
  · have c3 : ¬ x ≤ 4 := by
      rw [Int32.le_iff_toInt_le] at c2 ⊢
      rw [show (nI 5).toInt = 5 from rfl] at c2
      rw [show (4 : Int32).toInt = 4 from rfl]
      omega
    have c4 : 4 < x := Int32.not_le.mp c3
    exact mz_Ok.same H 9221120237041090560 (by simp only [fn_X11_fold, fn_X0_folded, cg_1_5 hR, ci_25 hR z2, if_neg c1, if_neg c3, zo_s, zc_t, zl_0, zr_e, z_0, z_1, if_true]) (by simp only [fn_X12_fold, rs_within, if_neg c1, if_pos c4, zo_s, zc_t, zl_0, zr_e, z_0, z_1, if_true])
  · have c3 : nI j ≤ 4 := nI_le (show j ≤ 4 by omega) (by decide)
    have c4 : ¬ (4 : Int32) < nI j := Int32.not_lt.mpr c3
    have I0 : fo_I 0 0 0 0 0 := ⟨by decide, by decide, by decide, by decide, fun z => absurd rfl z, fun z => absurd rfl z, fun z => absurd z.1 (by decide), fun z => absurd z.1 (by decide), by decide, by decide, fun _ => ⟨rfl, rfl⟩⟩
    have J0 : fo_J (nI j) 0 0 0 0 0 0 := ⟨fun _ z => absurd rfl z, fun _ z => absurd rfl z, fun _ => rfl, fun _ => rfl⟩
    obtain ⟨r, e1, e2⟩ := fo_loop hR hcnt e46 hgj hl e45 hj q h.2 cnt 0 1001 1001 0 0 0 0 0 0 (by omega) (by omega) (by omega) (by omega) I0 J0
    refine mz_Ok.same H r ?_ ?_
    · have e1' : fn_X0_folded_b37 1001 h (some (ad (25, 0, 0, 0))) (nI j) (fo_x j) 0 0 0 = some (r, h, 0, 0) := e1
      simp only [fn_X11_fold, fo_in h _ hj c1 c3, cg_1_5 hR, ci_25 hR z2, e1', zo_s, zc_t, zl_0, zr_e, z_0, z_1, if_true]
    · have e2' : fn_X12_fold_b29 1001 (mz_RH q h.2 rs) (some q) (nI j) 0 FP.dconst0 FP.dconst0 FP.dconst0 FP.dconst0 0 = some (r, mz_RH q h.2 rs, 0, 0) := e2
      simp only [fn_X12_fold, rs_within, if_neg c1, if_neg c4, if_neg one0, e2', zo_s, zc_t, zl_0, zr_e, z_0, z_1, if_true]

/-! the class reads a table: members -/
def tb_R (S : Nat → List (Nat × Nat)) (F : Nat → Int32) : Prop := (F 1 = 0 ∧ F 2 = -9 ∧ F 3 = -9 ∧ F 4 = -9 ∧ ∀ k, k < 31 → S k = []) ∨ ∃ k0 c0 s0 r, k0 < 31 ∧ S k0 = (c0, s0) :: r ∧ (∀ k, k < k0 → S k = []) ∧ F 1 = 1 ∧ F 2 = nI k0 ∧ F 3 = nI c0 ∧ F 4 = -9
def tb_ad (L : Nat → List (Nat × Nat)) (k : Nat) (b : Bool) (q : Nat × Nat) : Nat → List (Nat × Nat) := fun k' => if k' = k ∧ b = true then L k' ++ [q] else L k'
theorem tb_R.ad {S : Nat → List (Nat × Nat)} {F : Nat → Int32} (H : tb_R S F) {k : Nat} (hk : k < 31) (c s : Nat) : (∃ F', (F 1 = 0 ∨ (¬ F 1 = 0 ∧ nI k < F 2)) ∧ F' = upd (upd (upd (upd F 1 1) 2 (nI k)) 3 (nI c)) 4 (-9) ∧ tb_R (tb_ad S k true (c, s)) F') ∨ (¬ F 1 = 0 ∧ F 2 ≤ nI k ∧ tb_R (tb_ad S k true (c, s)) F) := by
  have other : ∀ k', k' ≠ k → tb_ad S k true (c, s) k' = S k' := fun k' h => if_neg fun z => h z.1
  have self : tb_ad S k true (c, s) k = S k ++ [(c, s)] := if_pos ⟨rfl, rfl⟩
  rcases H with ⟨f1, f2, f3, f4, hS⟩ | ⟨k0, c0, s0, r, hk0, e0, hS, f1, f2, f3, f4⟩
  · refine Or.inl ⟨_, Or.inl f1, rfl, Or.inr ⟨k, c, s, [], hk, ?_, fun k' hk' => ?_, rfl, rfl, rfl, rfl⟩⟩
    · rw [self, hS k hk]
      rfl
    · rw [other k' (by omega), hS k' (by omega)]
  · have n1 : ¬ F 1 = 0 := by rw [f1]; decide
    by_cases hlt : k < k0
    · refine Or.inl ⟨_, Or.inr ⟨n1, by rw [f2]; exact nI_lt hlt (by omega)⟩, rfl, Or.inr ⟨k, c, s, [], hk, ?_, fun k' hk' => ?_, rfl, rfl, rfl, rfl⟩⟩
      · rw [self, hS k hlt]
        rfl
      · rw [other k' (by omega), hS k' (by omega)]
    · refine Or.inr ⟨n1, by rw [f2]; exact nI_le (by omega) (by omega), Or.inr ?_⟩
      by_cases he : k = k0
      · subst he
        exact ⟨k, c0, s0, r ++ [(c, s)], hk, by rw [self, e0]; rfl, fun k' hk' => by rw [other k' (by omega)]; exact hS k' hk', f1, f2, f3, f4⟩
      · exact ⟨k0, c0, s0, r, hk0, by rw [other k0 (fun z => he z.symm)]; exact e0, fun k' hk' => by rw [other k' (by omega)]; exact hS k' hk', f1, f2, f3, f4⟩
def tb_J (rs : mz_RS) (N : Nat) (L S : Nat → List (Nat × Nat)) (F : Nat → Int32) (E : Nat → Nat → Int32) : Prop := (∀ k, k < 31 → tb_E rs k (L k) (E k) ∧ (L k).length ≤ N ∧ ∀ q ∈ L k, q.1 < 40) ∧ tb_R S F
theorem w_bits {w : Nat} (hw : w < 8) : ((nI w &&& 1) = 1 ↔ w % 2 = 1) ∧ ((nI w &&& 2) = 2 ↔ w / 2 % 2 = 1) ∧ ((nI w &&& 6) = 6 ↔ 6 ≤ w) ∧ ((nI w &&& 3) = 0 ↔ w % 4 = 0) := by
  rcases (show w = 0 ∨ w = 1 ∨ w = 2 ∨ w = 3 ∨ w = 4 ∨ w = 5 ∨ w = 6 ∨ w = 7 by omega) with rfl | rfl | rfl | rfl | rfl | rfl | rfl | rfl <;> decide
section
variable {VB : Nat} {n m : Nat} {rs : mz_RS} {ad : mz_T → Nat} {lv : Nat → Int32} {mk : Nat → Nat} {mm : Nat → Nat → Nat × Nat} {gi : Nat → Nat → Nat → Int32} {go : Nat → Nat → Option Nat} {gj : Nat → Nat → Int64} {h : mz_H}
variable {t : Nat} {F : Nat → Int32} {E : Nat → Nat → Int32} {G : Nat → Option Nat} {L S : Nat → List (Nat × Nat)} {N : Nat}
theorem cs_isMarked (hR : mz_Rp VB n m rs ad lv mk mm gi go gj h) {c i : Nat} (hc : c < n) (hi : i < mk c) {w : Int32} (e : rs.2.1 13 ((3 * c + (mm c i).1) * 31 + (mm c i).2) = w) (x : Int32) : fn_X2_isMarked h (some (ad (11, c, i, 0))) x = some (if (w &&& x) = x then 1 else 0, h, 0, 0) := by
  simp only [fn_X2_isMarked, cg_11_4 hR hc hi, e, zo_s, zc_t, zl_0, zr_e, z_0, z_1, if_true]
  split <;> rfl
/-- the second half of a take -/
theorem cs_takeB (ht : t < 2) (wm : mz_wm n rs mk mm) (hn : n ≤ 40) (hR : mz_Rp VB n m (mz_rt t rs F) ad lv mk mm (mz_gt t gi F E) (mz_ot t go G) gj h) {c i s k : Nat} (hc : c < n) (hi : i < mk c) (em : mm c i = (s, k)) (J : tb_J rs N L S F E) (hN : N < 2 ^ 30) : ∃ h' E', fn_X7_takeMember_b39 h (some (ad (12, t, 0, 0))) (nI c) (some (ad (11, c, i, 0))) = some ((), h', 0, 0) ∧ mz_Rp VB n m (mz_rt t rs F) ad lv mk mm (mz_gt t gi F E') (mz_ot t go G) gj h' ∧ h'.2 = h.2 ∧ tb_J rs (N + 1) (tb_ad L k (tb_k rs 3 0 c s k) (c, s)) S F E' := by
  obtain ⟨hs, hk⟩ := wm.2.1 c hc i hi
  rw [em] at hs hk
  have h1 : rs.2.1 10 ((3 * c + s) * 31 + k) = 1 := by
    rcases wm.2.2.2.1 c hc s k hs hk with ⟨q, -⟩ | ⟨-, q⟩
    · exact q
    · exact absurd ⟨i, hi, em⟩ q
  obtain ⟨-, -, w, hw, ew⟩ := wm.2.2.2.2 c hc s k hs hk h1
  obtain ⟨b1, b2, b6, b3⟩ := w_bits hw
  have ew' : (mz_rt t rs F).2.1 13 ((3 * c + (mm c i).1) * 31 + (mm c i).2) = nI w := by rw [em]; exact ew
  have M1 := cs_isMarked hR hc hi ew' 1
  have M2 := cs_isMarked hR hc hi ew' 2
  have kk : tb_k rs 3 0 c s k = decide (w % 4 = 0) := by
    unfold tb_k
    rw [show rs.2.1 13 (tb_p c s k) = nI w from ew]
    exact decide_eq_decide.mpr b3
  have keepJ : tb_k rs 3 0 c s k = false → tb_J rs (N + 1) (tb_ad L k (tb_k rs 3 0 c s k) (c, s)) S F E := fun q => by
    have e : tb_ad L k (tb_k rs 3 0 c s k) (c, s) = L := by
      funext k'
      unfold tb_ad
      rw [q]
      exact if_neg fun z => by cases z.2
    rw [e]
    exact ⟨fun k' hk' => ⟨(J.1 k' hk').1, by have := (J.1 k' hk').2.1; omega, (J.1 k' hk').2.2⟩, J.2⟩
  by_cases q1 : w % 2 = 1
  · rw [if_pos (b1.mpr q1)] at M1
    refine ⟨h, E, ?_, hR, rfl, keepJ (by rw [kk]; exact decide_eq_false (by omega))⟩
    simp only [fn_X7_takeMember_b39, ci_11 hR hc hi, M1, if_neg one0, zo_s, zc_t, zl_0, zr_e, z_0, z_1, if_true]
  rw [if_neg (fun z => q1 (b1.mp z))] at M1
  by_cases q2 : w / 2 % 2 = 1
  · rw [if_pos (b2.mpr q2)] at M2
    refine ⟨h, E, ?_, hR, rfl, keepJ (by rw [kk]; exact decide_eq_false (by omega))⟩
    simp only [fn_X7_takeMember_b39, ci_11 hR hc hi, M1, M2, if_neg one0, zo_s, zc_t, zl_0, zr_e, z_0, z_1, if_true]
  rw [if_neg (fun z => q2 (b2.mp z))] at M2
  have kt : tb_k rs 3 0 c s k = true := by rw [kk]; exact decide_eq_true (by omega)
  obtain ⟨jE, jN, jb⟩ := J.1 k hk
  obtain ⟨h1, E1, k1, R1, s1, e1, x1⟩ := cs_take1 ht hR hk hc hi em jE (by omega) jb
  have g1 : mz_fI h (some (ad (11, c, i, 0))) 2 1 = some (nI k) := by rw [cg_11_1 hR hc hi, em]
  have c1 := nI_pos (show k < 2 ^ 31 by omega)
  have c2 : ¬ 31 ≤ nI k := nI_ge (b := 31) hk (by omega)
  refine ⟨h1, E1, ?_, R1, s1, ?_, J.2⟩
  · simp only [fn_X7_takeMember_b39, ci_11 hR hc hi, M1, M2, g1, cs_isName, if_neg c1, if_neg c2, if_neg one0, cg_12_0 hR ht, tr_b ht hR hk, ci_15 hR ht hk, k1, zo_s, zc_t, zl_0, zr_e, z_0, z_1, if_true]
  · intro k' hk'
    by_cases hkk : k' = k
    · subst hkk
      have e : tb_ad L k' (tb_k rs 3 0 c s k') (c, s) k' = L k' ++ [(c, s)] := if_pos ⟨rfl, kt⟩
      rw [e]
      refine ⟨e1, by rw [List.length_append]; show (L k').length + 1 ≤ N + 1; omega, fun q hq => ?_⟩
      rcases List.mem_append.mp hq with z | z
      · exact jb q z
      · obtain rfl := List.mem_singleton.mp z
        show c < 40
        omega
    · have e : tb_ad L k (tb_k rs 3 0 c s k) (c, s) k' = L k' := if_neg fun z => hkk z.1
      rw [e, x1 k' hkk]
      exact ⟨(J.1 k' hk').1, by have := (J.1 k' hk').2.1; omega, (J.1 k' hk').2.2⟩
theorem cs_takeM (ht : t < 2) (wm : mz_wm n rs mk mm) (hn : n ≤ 40) (hR : mz_Rp VB n m (mz_rt t rs F) ad lv mk mm (mz_gt t gi F E) (mz_ot t go G) gj h) {c i s k : Nat} (hc : c < n) (hi : i < mk c) (em : mm c i = (s, k)) (J : tb_J rs N L S F E) (hN : N < 2 ^ 30) : ∃ h' F' E', fn_X7_takeMember h (some (ad (12, t, 0, 0))) (nI c) (some (ad (11, c, i, 0))) = some ((), h', 0, 0) ∧ mz_Rp VB n m (mz_rt t rs F') ad lv mk mm (mz_gt t gi F' E') (mz_ot t go G) gj h' ∧ h'.2 = h.2 ∧ tb_J rs (N + 1) (tb_ad L k (tb_k rs 3 0 c s k) (c, s)) (tb_ad S k (tb_k rs 6 6 c s k) (c, s)) F' E' := by
  obtain ⟨hs, hk⟩ := wm.2.1 c hc i hi
  rw [em] at hs hk
  have h1 : rs.2.1 10 ((3 * c + s) * 31 + k) = 1 := by
    rcases wm.2.2.2.1 c hc s k hs hk with ⟨q, -⟩ | ⟨-, q⟩
    · exact q
    · exact absurd ⟨i, hi, em⟩ q
  obtain ⟨-, -, w, hw, ew⟩ := wm.2.2.2.2 c hc s k hs hk h1
  have ew' : (mz_rt t rs F).2.1 13 ((3 * c + (mm c i).1) * 31 + (mm c i).2) = nI w := by rw [em]; exact ew
  have M6 := cs_isMarked hR hc hi ew' 6
  have kk : tb_k rs 6 6 c s k = decide ((nI w &&& 6) = 6) := by
    unfold tb_k
    rw [show rs.2.1 13 (tb_p c s k) = nI w from ew]
  by_cases q6 : (nI w &&& 6) = 6
  case neg =>
    rw [if_neg q6] at M6
    have e : tb_ad S k (tb_k rs 6 6 c s k) (c, s) = S := by
      funext k'
      unfold tb_ad
      rw [kk, decide_eq_false q6]
      exact if_neg fun z => by cases z.2
    rw [e]
    obtain ⟨h2, E2, k2, R2, s2, J2⟩ := cs_takeB ht wm hn hR hc hi em J hN
    exact ⟨h2, F, E2, by simp only [fn_X7_takeMember, ci_11 hR hc hi, M6, k2, zc_t, zl_0, if_true], R2, s2, J2⟩
  rw [if_pos q6] at M6
  rw [kk, decide_eq_true q6]
  have g1 : mz_fI h (some (ad (11, c, i, 0))) 2 1 = some (nI k) := by rw [cg_11_1 hR hc hi, em]
  have f1 : mz_fI h (some (ad (12, t, 0, 0))) 6 3 = some (F 1) := tr_f ht hR (x := 1) (by omega)
  have f2 : mz_fI h (some (ad (12, t, 0, 0))) 6 4 = some (F 2) := tr_f ht hR (x := 2) (by omega)
  rcases J.2.ad hk c s with ⟨F', hF, eF, R'⟩ | ⟨n1, hle, R'⟩
  · obtain ⟨h2, k2, R2, s2⟩ := cw_tf ht hR (x := 1) (by omega) 1
    obtain ⟨h3, k3, R3, s3⟩ := cw_tf ht R2 (x := 2) (by omega) (nI k)
    obtain ⟨h4, k4, R4, s4⟩ := cw_tf ht R3 (x := 3) (by omega) (nI c)
    obtain ⟨h5, k5, R5, s5⟩ := cw_tf ht R4 (x := 4) (by omega) (-9)
    rw [← eF] at R5
    obtain ⟨h6, E6, k6, R6, s6, J6⟩ := cs_takeB ht wm hn R5 hc hi em (S := tb_ad S k true (c, s)) ⟨J.1, R'⟩ hN
    have T : fn_X7_tell h (some (ad (12, t, 0, 0))) 1 (nI k) (nI c) (-9) = some ((), h5, 0, 0) := by
      have k2' : mz_pF h (some (ad (12, t, 0, 0))) 6 3 (.int 1) = some h2 := k2
      have k3' : mz_pF h2 (some (ad (12, t, 0, 0))) 6 4 (.int (nI k)) = some h3 := k3
      have k4' : mz_pF h3 (some (ad (12, t, 0, 0))) 6 5 (.int (nI c)) = some h4 := k4
      have k5' : mz_pF h4 (some (ad (12, t, 0, 0))) 6 6 (.int (-9)) = some h5 := k5
      simp only [fn_X7_tell, k2', k3', k4', k5', zo_s, zc_t, zl_0, zr_e, z_0, z_1, if_true]
    refine ⟨h6, F', E6, ?_, R6, by omega, J6⟩
    by_cases z1 : F 1 = 0
    · simp only [fn_X7_takeMember, ci_11 hR hc hi, M6, if_neg one0, f1, if_pos z1, fn_X7_takeMember_b27, g1, ci_12 hR ht, T, k6, zo_s, zc_t, zl_0]
    · have lt : ¬ F 2 ≤ nI k := Int32.not_le.mpr ((hF.resolve_left z1).2)
      simp only [fn_X7_takeMember, ci_11 hR hc hi, M6, if_neg one0, f1, if_neg z1, f2, if_neg lt, fn_X7_takeMember_b27, g1, ci_12 hR ht, T, k6, zo_s, zc_t, zl_0]
  · obtain ⟨h2, E2, k2, R2, s2, J2⟩ := cs_takeB ht wm hn hR hc hi em (S := tb_ad S k true (c, s)) ⟨J.1, R'⟩ hN
    exact ⟨h2, F, E2, by simp only [fn_X7_takeMember, ci_11 hR hc hi, M6, if_neg one0, f1, if_neg n1, g1, f2, if_pos hle, k2, zo_s, zc_t, zl_0], R2, s2, J2⟩
end

/-! column -/
def mz_q8 (rs : mz_RS) (F D : Nat → Int64) : mz_RS := (rs.1, rs.2.1, fun k => if k = 47 then F else if k = 48 then D else rs.2.2 k)
def mz_gq (gi : Nat → Nat → Nat → Int32) (b0 b1 b2 : Int32) : Nat → Nat → Nat → Int32 := fun k i j => if k = 4 then (if i = 0 then b0 else if i = 1 then b1 else b2) else gi k i j
def mz_gk (gj : Nat → Nat → Int64) (E : Nat → Int64) : Nat → Nat → Int64 := fun k i => if k = 1 then E i else gj k i
theorem q8_id (rs : mz_RS) : rs = mz_q8 rs (rs.2.2 47) (rs.2.2 48) := by
  refine Prod.ext rfl (Prod.ext rfl (funext fun k => ?_))
  show rs.2.2 k = if k = 47 then rs.2.2 47 else if k = 48 then rs.2.2 48 else rs.2.2 k
  by_cases h : k = 47
  · rw [if_pos h, h]
  · by_cases h2 : k = 48
    · rw [if_neg h, if_pos h2, h2]
    · rw [if_neg h, if_neg h2]
theorem q8_48 (rs : mz_RS) (F D : Nat → Int64) (a : Int32) (A B C : Nat → Int32) (i : Nat) (v : Int64) : mz_sj (mz_wy (mz_q8 rs F D) a A B C) 48 i v = mz_wy (mz_q8 rs F (vp_updL D i v)) a A B C := by
  refine Prod.ext rfl (Prod.ext rfl (funext fun k => ?_))
  show (if k = 48 then vp_updL D i v else if k = 47 then F else if k = 48 then D else rs.2.2 k) = if k = 47 then F else if k = 48 then vp_updL D i v else rs.2.2 k
  by_cases h2 : k = 48
  · subst h2; rfl
  · simp [h2]
theorem q8_47 (rs : mz_RS) (F D : Nat → Int64) (a : Int32) (A B C : Nat → Int32) (i : Nat) (v : Int64) : mz_sj (mz_wy (mz_q8 rs F D) a A B C) 47 i v = mz_wy (mz_q8 rs (vp_updL F i v) D) a A B C := by
  refine Prod.ext rfl (Prod.ext rfl (funext fun k => ?_))
  show (if k = 47 then vp_updL F i v else if k = 47 then F else if k = 48 then D else rs.2.2 k) = if k = 47 then vp_updL F i v else if k = 48 then D else rs.2.2 k
  by_cases h2 : k = 47
  · subst h2; rfl
  · simp [h2]
section
variable {VB : Nat} {n m : Nat} {rs : mz_RS} {ad : mz_T → Nat} {lv : Nat → Int32} {mk : Nat → Nat} {mm : Nat → Nat → Nat × Nat} {gi : Nat → Nat → Nat → Int32} {go : Nat → Nat → Option Nat} {gj : Nat → Nat → Int64} {h : mz_H}
theorem keep15g {rs' : mz_RS} {ad' : mz_T → Nat} {go' : Nat → Nat → Option Nat} {gj' : Nat → Nat → Int64} {gi' : Nat → Nat → Nat → Int32} (h2 : ∀ j k, gi' 2 j k = gi 2 j k) (h3 : ∀ j k, gi' 3 j k = gi 3 j k) (i j k : Nat) : mz_f15 n m rs' ad' lv mk mm gi' go' gj' i j k = mz_f15 n m rs ad lv mk mm gi go gj i j k := by
  unfold mz_f15
  by_cases hi : i < 2 ∧ j < 31 ∧ k = 0
  · rw [if_pos hi, if_pos hi]
    rcases (show i = 0 ∨ i = 1 by omega) with rfl | rfl
    · simp only [Nat.add_zero, h2]
    · simp only [show 2 + 1 = 3 from rfl, h3]
  · rw [if_neg hi, if_neg hi]
theorem mz_Rp.q8 (hR : mz_Rp VB n m rs ad lv mk mm gi go gj h) (F D : Nat → Int64) : mz_Rp VB n m (mz_q8 rs F D) ad lv mk mm gi go gj h := hR.same (by apply mz_hq <;> exact fun _ _ _ => Or.inl rfl)
theorem cw_q1 {b0 b1 b2 a : Int32} {A M : Nat → Int32} (hR : mz_Rp VB n m rs ad lv mk mm (mz_gw (mz_gq gi b0 b1 b2) a A M) go gj h) (v : Int32) : (∃ h', mz_pF h (some (ad (25, 1, 0, 0))) 0 1 (.int v) = some h' ∧ mz_Rp VB n m rs ad lv mk mm (mz_gw (mz_gq gi v b1 b2) a A M) go gj h' ∧ h'.2 = h.2) ∧ (∃ h', mz_pF h (some (ad (25, 1, 0, 0))) 0 2 (.int v) = some h' ∧ mz_Rp VB n m rs ad lv mk mm (mz_gw (mz_gq gi b0 v b2) a A M) go gj h' ∧ h'.2 = h.2) ∧ (∃ h', mz_pF h (some (ad (25, 1, 0, 0))) 0 3 (.int v) = some h' ∧ mz_Rp VB n m rs ad lv mk mm (mz_gw (mz_gq gi b0 b1 v) a A M) go gj h' ∧ h'.2 = h.2) := by
  have k25 : ∀ (b0' b1' b2' : Int32) (i j k : Nat), ¬ (25 = 25 ∧ i = 1 ∧ j = 0 ∧ k = 0) → mz_f25 n m rs ad lv mk mm (mz_gw (mz_gq gi b0' b1' b2') a A M) go gj i j k = mz_f25 n m rs ad lv mk mm (mz_gw (mz_gq gi b0 b1 b2) a A M) go gj i j k ∨ mz_f25 n m rs ad lv mk mm (mz_gw (mz_gq gi b0' b1' b2') a A M) go gj i j k = none := fun b0' b1' b2' i j k hne => by
    by_cases hq : i < 2 ∧ j = 0 ∧ k = 0
    · left
      obtain rfl : i = 0 := by
        rcases (show i = 0 ∨ i = 1 by omega) with q | q
        · exact q
        · exact absurd ⟨rfl, q, hq.2⟩ hne
      unfold mz_f25
      rw [if_pos hq, if_pos hq]
      rfl
    · exact Or.inr (if_neg hq)
  have c25 := cc_25 hR (show 1 < 2 by omega)
  refine ⟨⟨_, pF_of c25 (lt_rfl rfl), hR.up 25 1 0 0 (Or.inl ?_) (cb_25 hR (by omega)) ?_, rfl⟩, ⟨_, pF_of c25 (lt_rfl rfl), hR.up 25 1 0 0 (Or.inl ?_) (cb_25 hR (by omega)) ?_, rfl⟩, ⟨_, pF_of c25 (lt_rfl rfl), hR.up 25 1 0 0 (Or.inl ?_) (cb_25 hR (by omega)) ?_, rfl⟩⟩
  · rfl
  · apply mz_hs <;> first | (exact fun _ _ _ _ => Or.inl rfl) | (intro _ _ _ _; left; apply keep15g <;> exact fun _ _ => rfl) | (exact k25 _ _ _)
  · rfl
  · apply mz_hs <;> first | (exact fun _ _ _ _ => Or.inl rfl) | (intro _ _ _ _; left; apply keep15g <;> exact fun _ _ => rfl) | (exact k25 _ _ _)
  · rfl
  · apply mz_hs <;> first | (exact fun _ _ _ _ => Or.inl rfl) | (intro _ _ _ _; left; apply keep15g <;> exact fun _ _ => rfl) | (exact k25 _ _ _)
theorem cw_qa {E : Nat → Int64} (hR : mz_Rp VB n m rs ad lv mk mm gi go (mz_gk gj E) h) {i : Nat} (hi : i < 60) (v : Int64) : ∃ h', mz_sJ h (some (ad (26, 1, 0, 0))) (nI i) v = some h' ∧ mz_Rp VB n m rs ad lv mk mm gi go (mz_gk gj (vp_updL E i v)) h' ∧ h'.2 = h.2 := by
  refine ⟨_, sJ_of (cc_26 hR (show 1 < 2 by omega)) (ix_nI hi (by omega)), hR.up 26 1 0 0 (Or.inl ?_) (cb_26 hR (by omega)) ?_, rfl⟩
  · rw [cl_nI (by omega)]
    rfl
  · apply mz_hs <;> first | (exact fun _ _ _ _ => Or.inl rfl) | skip
    intro i' j' k' hne
    by_cases hq : i' < 2 ∧ j' = 0 ∧ k' = 0
    · left
      obtain rfl : i' = 0 := by
        rcases (show i' = 0 ∨ i' = 1 by omega) with q | q
        · exact q
        · exact absurd ⟨rfl, q, hq.2⟩ hne
      unfold mz_f26
      rw [if_pos hq, if_pos hq]
      rfl
    · exact Or.inr (if_neg hq)
/-- one slot's value is taken into the next column -/
theorem cs_take {a : Int32} {A M : Nat → Int32} {E : Nat → Int64} {cnt ln l8 o s : Nat} (hR : mz_Rp VB n m rs ad lv mk mm (mz_gw (mz_gq gi (nI cnt) (nI ln) 1) a A M) go (mz_gk gj E) h) (w : mz_wo n m rs) (hc : cnt < 60) (hln : ln < 8) (ho : o < m) (hs : s < mz_sl rs o) (d0 : rs.2.1 37 (16 * o + s) = 0) (hl : l8 < 8) (e36 : rs.2.1 36 (16 * o + s) = nI l8) :
    (fn_X3_widens h (nI l8) (nI ln) = some (0, h, 0, 0) → fn_X0_take h (some (ad (25, 1, 0, 0))) (some (ad (19, o, s, 0))) = some (0, h, 0, 0)) ∧ (∀ r, fn_X3_widens h (nI l8) (nI ln) = some (1, h, 0, 0) → fn_X3_widened h (rs.2.2 43 (900 * (16 * o + s))) (nI l8) (nI ln) = some (r, h, 0, 0) → ∃ h', fn_X0_take h (some (ad (25, 1, 0, 0))) (some (ad (19, o, s, 0))) = some (1, h', 0, 0) ∧ mz_Rp VB n m rs ad lv mk mm (mz_gw (mz_gq gi (nI (cnt + 1)) (nI ln) 1) a A M) go (mz_gk gj (vp_updL E cnt r)) h' ∧ h'.2 = h.2) := by
  have z1 : 1 < 2 := by omega
  obtain ⟨h9, h40⟩ := (w.2.2.2.1 o s ho hs).2.2.2.2.2 d0
  have hrl : mz_rl rs (16 * o + s) = 1 := by unfold mz_rl; rw [h40]; rfl
  have n2 : ¬ rs.2.1 37 (16 * o + s) = 2 := by rw [d0]; decide
  have P : mz_PC rs o s 0 0 0 (21, o, s, 0) 0 (900 * (16 * o + s)) := Or.inr (Or.inr (Or.inl ⟨h9, n2, rfl, by omega, rfl, rfl, rfl⟩))
  have g2 : mz_fI h (some (ad (25, 1, 0, 0))) 0 2 = some (nI ln) := cg_25_2 hR z1
  have g1 : mz_fI h (some (ad (25, 1, 0, 0))) 0 1 = some (nI cnt) := cg_25_1 hR z1
  have lt : nI cnt < Int32.ofNat 60 := nI_lt hc (show 60 < 2 ^ 31 by omega)
  refine ⟨fun u => ?_, fun r u1 u2 => ?_⟩
  · simp only [fn_X0_take, cg_19_1 hR ho hs, e36, g2, u, zo_s, zc_t, zl_0, zr_e, z_0, z_1, if_true]
  · obtain ⟨h1, k1, R1, s1⟩ := cw_qa hR hc r
    obtain ⟨⟨h2, k2, R2, s2⟩, -, -⟩ := cw_q1 R1 (nI (cnt + 1))
    have g3 : mz_fI h1 (some (ad (25, 1, 0, 0))) 0 1 = some (nI cnt) := cg_25_1 R1 z1
    have e1 : nI cnt + 1 = nI (cnt + 1) := nI_add cnt 1
    refine ⟨h2, ?_, R2, by omega⟩
    simp only [fn_X0_take, cg_19_1 hR ho hs, e36, g2, u1, if_neg one0, g1, cg_25_0 hR z1, cl_26a hR z1, if_pos lt, ci_19 hR ho hs, cs_cellAt hR w ho hs P, u2, k1, g3, e1, k2, zo_s, zc_t, zl_0, zr_e, z_0, z_1, if_true]
theorem cs_begin {b0 b1 b2 a : Int32} {A M : Nat → Int32} (hR : mz_Rp VB n m rs ad lv mk mm (mz_gw (mz_gq gi b0 b1 b2) a A M) go gj h) (v : Int32) : ∃ h', fn_X0_begin h (some (ad (25, 1, 0, 0))) v = some ((), h', 0, 0) ∧ mz_Rp VB n m rs ad lv mk mm (mz_gw (mz_gq gi 0 v 1) a A M) go gj h' ∧ h'.2 = h.2 := by
  obtain ⟨-, ⟨h1, k1, R1, s1⟩, -⟩ := cw_q1 hR v
  obtain ⟨⟨h2, k2, R2, s2⟩, -, -⟩ := cw_q1 R1 0
  obtain ⟨-, -, ⟨h3, k3, R3, s3⟩⟩ := cw_q1 R2 1
  exact ⟨h3, by simp only [fn_X0_begin, k1, k2, k3, zo_s, zc_t, zl_0, zr_e, z_0, z_1, if_true], R3, by omega⟩
/-- the swap, at the end -/
theorem cw_swap {a : Int32} {A M : Nat → Int32} {E F D : Nat → Int64} {cnt ln : Nat} {a' : Int32} {A' B' C' : Nat → Int32} (hR : mz_Rp VB n m rs ad lv mk mm (mz_gw (mz_gq gi (nI cnt) (nI ln) 1) a A M) go (mz_gk gj E) h) : ∃ h', (mz_op (mz_pF h (some (ad (1, 0, 0, 0))) 10 5 (va_rf (some (ad (25, 1, 0, 0))))) fun h => mz_op (mz_pF h (some (ad (1, 0, 0, 0))) 10 6 (va_rf (some (ad (25, 0, 0, 0))))) fun h => some h) = some h' ∧ mz_Rp VB n m (mz_si (mz_si (mz_si (mz_wy (mz_q8 rs F D) a' A' B' C') 44 1) 45 (nI ln)) 46 (nI cnt)) (fun t => ad (mz_sg (fun f => f == 25 || f == 26) t)) lv mk mm (mz_gw (mz_gq gi (rs.1 46) (rs.1 45) (rs.1 44)) a A M) go (fun k i => if k = 1 then gj 0 i else E i) h' ∧ h'.2 = h.2 := by
  refine ⟨mz_up h (ad (1, 0, 0, 0)) (.inr (10, [.ref (ad (2, 0, 0, 0)), .ref (ad (12, 0, 0, 0)), .ref (ad (12, 1, 0, 0)), .ref (ad (16, 0, 0, 0)), .int (nI m), .ref (ad (25, 1, 0, 0)), .ref (ad (25, 0, 0, 0)), .ref (ad (27, 0, 0, 0)), .int (rs.1 0), .int (rs.1 1)])), ?_, ?_, rfl⟩
  · rw [pF_of (cc_1 hR) (lt_rfl rfl), zo_s]
    have e2 := pF_of (k := 6) (v := va_rf (some (ad (25, 0, 0, 0)))) (up_at h (ad (1, 0, 0, 0)) (.inr (10, [.ref (ad (2, 0, 0, 0)), .ref (ad (12, 0, 0, 0)), .ref (ad (12, 1, 0, 0)), .ref (ad (16, 0, 0, 0)), .int (nI m), .ref (ad (25, 1, 0, 0)), .ref (ad (25, 1, 0, 0)), .ref (ad (27, 0, 0, 0)), .int (rs.1 0), .int (rs.1 1)]))) (lt_rfl rfl)
    refine (congrArg (fun x => mz_op x fun h => some h) e2).trans ?_
    rw [zo_s, up_up]
    rfl
  · refine hR.pup (fun f => f == 25 || f == 26) rfl rfl (cb_1 hR) ?_
    apply mz_hp <;> first | (exact fun _ _ _ _ => Or.inl rfl) | (intro _ _ _ _; left; apply keep15g <;> exact fun _ _ => rfl) | skip
    · intro i j k hne
      exact Or.inr (if_neg (fun z => hne ⟨rfl, z⟩))
    · intro i j k _
      by_cases hq : i < 2 ∧ j = 0 ∧ k = 0
      · left
        obtain ⟨hi, rfl, rfl⟩ := hq
        rcases (show i = 0 ∨ i = 1 by omega) with rfl | rfl <;> rfl
      · exact Or.inr (if_neg hq)
    · intro i j k _
      by_cases hq : i < 2 ∧ j = 0 ∧ k = 0
      · left
        obtain ⟨hi, rfl, rfl⟩ := hq
        rcases (show i = 0 ∨ i = 1 by omega) with rfl | rfl <;> rfl
      · exact Or.inr (if_neg hq)
end
theorem wy_own_c {rs rs' : mz_RS} (e : rs'.2.1 = rs.2.1) : ∀ L c, wy_own rs' L c = wy_own rs L c := by
  intro L
  induction L with
  | zero => exact fun c => rfl
  | succ L ih =>
    intro c
    rw [wy_own, wy_own, e, ih]
theorem wy_G_c {rs rs' : mz_RS} (e : rs'.2.1 = rs.2.1) : wy_G rs' = wy_G rs := by
  funext x
  unfold wy_G
  rw [e]
theorem wy_O_c {rs rs' : mz_RS} (e : rs'.2.1 = rs.2.1) : ∀ (ks ws ws' : List Nat), wy_O rs ws ks ws' → wy_O rs' ws ks ws' := by
  intro ks
  induction ks with
  | nil => exact fun _ _ h => h
  | cons x ks ih =>
    rintro ws ws' ⟨w1, k, r, o⟩
    refine ⟨w1, k, ?_, ih _ _ o⟩
    rw [wy_G_c e]
    exact r
theorem wy_T_c {n : Nat} {rs rs' : mz_RS} {lv : Nat → Int32} {c : Nat} {ws : List Nat} (e : rs'.2.1 = rs.2.1) (T : wy_T n rs lv c ws) : wy_T n rs' lv c ws := by
  obtain ⟨L, h1, h2, h3, h4⟩ := T
  refine ⟨L, h1, h2, ?_, h4⟩
  rw [wy_own_c e]
  exact wy_O_c e _ _ _ h3
theorem rs_col (q sz : Nat) (rs : mz_RS) (D : Nat → Int64) (a : Int32) (A B C : Nat → Int32) (ln : Int32) {cnt : Nat} (hc : cnt ≤ 60) : ∀ (d x f : Nat) (F : Nat → Int64), x + d = cnt → d < f → (∀ t, t < x → F t = D t) → ∃ F', (∀ t, t < cnt → F' t = D t) ∧ fn_X12_column_b181 f (mz_RH q sz (mz_wy (mz_q8 rs F D) a A B C)) (some q) ln (nI cnt) (nI x) = some (nI cnt, mz_RH q sz (mz_si (mz_si (mz_si (mz_wy (mz_q8 rs F' D) a A B C) 44 1) 45 ln) 46 (nI cnt)), 0, 0) := by
  intro d
  induction d with
  | zero =>
    intro x f F hx hf hF
    obtain ⟨f, rfl⟩ : ∃ g', f = g' + 1 := ⟨f - 1, by omega⟩
    have hle : nI cnt ≤ nI x := nI_le (by omega) (by omega)
    exact ⟨F, fun t ht => hF t (by omega), by simp only [fn_X12_column_b181, if_pos hle, rp_44, rp_45, rp_46, zo_s, zc_t, zl_0, zr_e, z_0, z_1, if_true]⟩
  | succ d ih =>
    intro x f F hx hf hF
    obtain ⟨f, rfl⟩ : ∃ g', f = g' + 1 := ⟨f - 1, by omega⟩
    have hle : ¬ nI cnt ≤ nI x := nI_ge (by omega) (by omega)
    obtain ⟨F', h1, I⟩ := ih (x + 1) f (vp_updL F x (D x)) (by omega) (by omega) (fun t ht => by
      by_cases htx : t = x
      · subst htx; exact pk_uLs
      · rw [pk_uLn htx]; exact hF t (by omega))
    refine ⟨F', h1, ?_⟩
    rw [show nI (x + 1) = nI x + 1 from (nI_add x 1).symm] at I
    have e48 : (mz_wy (mz_q8 rs F D) a A B C).2.2 48 x = D x := rfl
    simp only [fn_X12_column_b181, if_neg hle, rr_48, ra_48, rr_47, rw_47, ix_nI (show x < 60 by omega) (show 60 < 2 ^ 31 by omega), cl_nI (show x < 2 ^ 31 by omega), e48, q8_47, I, zo_s, if_true]
section
variable {VB : Nat} {n m : Nat} {rs : mz_RS} {ad : mz_T → Nat} {lv : Nat → Int32} {mk : Nat → Nat} {mm : Nat → Nat → Nat × Nat} {gi : Nat → Nat → Nat → Int32} {go : Nat → Nat → Option Nat} {gj : Nat → Nat → Int64} {h : mz_H}
theorem ok_col {l : Nat} (w : mz_wc n rs lv ∧ mz_wm n rs mk mm ∧ mz_wo n m rs ∧ mz_wt0 rs gi go ∧ mz_wl n rs ∧ mz_wq rs gj) (q sz : Nat) (hv : sz + 40 * (l + 1) + 1100 * (60 - m) ≤ VB) {c ln : Nat} (hc : c < n) (hln : ln < 8) (k : Int32) : ∀ (d i f g cnt : Nat) (h : mz_H) (a : Int32) (A M : Nat → Int32) (E : Nat → Int64) (a' : Int32) (A' B' C' : Nat → Int32) (D : Nat → Int64), i + d = m → cnt ≤ i → d < f → d < g → mz_Rp VB n m rs ad lv mk mm (mz_gw (mz_gq gi (nI cnt) (nI ln) 1) a A M) go (mz_gk gj E) h → h.2 = sz → (∀ t, t < cnt → E t = D t) →
    ∃ r h2 rs', fn_X11_column_b46 f h (some (ad (1, 0, 0, 0))) (nI c) k (nI i) = some (r, h2, 0, 0) ∧ fn_X12_column_b44 g (mz_RH q sz (mz_wy (mz_q8 rs (rs.2.2 47) D) a' A' B' C')) (some q) (nI c) k (nI ln) (nI cnt) (nI i) = some (r, mz_RH q sz rs', 0, 0) ∧ mz_In VB (ad (1, 0, 0, 0)) l rs' h2 ∧ h2.2 = sz ∧ rs'.1 32 = rs.1 32 := by
  obtain ⟨wc, wm, wo, wt, wl, wq⟩ := w
  have hn := wc.1
  have hm := wo.1
  intro d
  induction d with
  | zero =>
    intro i f g cnt h a A M E a' A' B' C' D hi hci hf hg hR hs hE
    obtain ⟨f, rfl⟩ : ∃ g', f = g' + 1 := ⟨f - 1, by omega⟩
    obtain ⟨g, rfl⟩ : ∃ g', g = g' + 1 := ⟨g - 1, by omega⟩
    have hle : nI m ≤ nI i := nI_le (by omega) (by omega)
    have e32 : (mz_wy (mz_q8 rs (rs.2.2 47) D) a' A' B' C').1 32 = nI m := wo.2.1
    obtain ⟨F', hF, RC⟩ := rs_col q sz rs D a' A' B' C' (nI ln) (show cnt ≤ 60 by omega) cnt 0 1001 (rs.2.2 47) (by omega) (by omega) (fun t ht => absurd ht (by omega))
    obtain ⟨h1, k1, R1, s1⟩ := cw_swap (F := F') (D := D) (a' := a') (A' := A') (B' := B') (C' := C') hR
    refine ⟨nI cnt, h1, _, ?_, by simp only [fn_X12_column_b44, rg_32, e32, if_pos hle, zo_s]; exact RC, ⟨n, m, _, lv, mk, mm, _, go, _, R1, wc, wm, wo, wt, wl, ⟨⟨cnt, by omega, rfl, fun t ht => ?_⟩, ⟨ln, hln, rfl⟩, Or.inr rfl⟩, rfl, by omega⟩, by omega, rfl⟩
    · have g5 : mz_fR h1 (some (ad (1, 0, 0, 0))) 10 5 = some (some (ad (25, 1, 0, 0))) := cg_1_5 R1
      have g6 : mz_fI h1 (some (ad (25, 1, 0, 0))) 0 1 = some (nI cnt) := cg_25_1 R1 (i := 0) (by omega)
      cases hp1 : mz_pF h (some (ad (1, 0, 0, 0))) 10 5 (va_rf (some (ad (25, 1, 0, 0)))) with
      | none => rw [hp1] at k1; cases k1
      | some hA =>
        rw [hp1, zo_s] at k1
        cases hp2 : mz_pF hA (some (ad (1, 0, 0, 0))) 10 6 (va_rf (some (ad (25, 0, 0, 0)))) with
        | none => rw [hp2] at k1; cases k1
        | some hB =>
          rw [hp2, zo_s] at k1
          cases k1
          simp only [fn_X11_column_b46, cg_1_4 hR, if_pos hle, cg_1_5 hR, cg_1_6 hR, hp1, hp2, g5, g6, zo_s, zc_t, zl_0, zr_e, z_0, z_1, if_true]
    · show E t = F' t
      rw [hE t ht, hF t ht]
  | succ d ih =>
    intro i f g cnt h a A M E a' A' B' C' D hi hci hf hg hR hs hE
    obtain ⟨f, rfl⟩ : ∃ g', f = g' + 1 := ⟨f - 1, by omega⟩
    obtain ⟨g, rfl⟩ : ∃ g', g = g' + 1 := ⟨g - 1, by omega⟩
    have him : i < m := by omega
    have hle : ¬ nI m ≤ nI i := nI_ge him (by omega)
    have e32 : (mz_wy (mz_q8 rs (rs.2.2 47) D) a' A' B' C').1 32 = nI m := wo.2.1
    have wo' : mz_wo n m (mz_wy (mz_q8 rs (rs.2.2 47) D) a' A' B' C') := wo
    have h16 := (mz_sl_le wo him).1
    obtain ⟨r, Fs⟩ := mz_fs.ex rs i k
    have SN := cs_slotNamed hR wo him Fs
    have RN : fn_X12_slotOf (mz_RH q sz (mz_wy (mz_q8 rs (rs.2.2 47) D) a' A' B' C')) (some q) (nI i) k = some (mz_fn r, mz_RH q sz (mz_wy (mz_q8 rs (rs.2.2 47) D) a' A' B' C'), 0, 0) := rs_slotNo (rs := mz_wy (mz_q8 rs (rs.2.2 47) D) a' A' B' C') q sz wo' him Fs
    have skip : ∀ (h1 : mz_H) (a1 : Int32) (A1 M1 : Nat → Int32) (a2 : Int32) (A2 B2 C2 : Nat → Int32), mz_Rp VB n m rs ad lv mk mm (mz_gw (mz_gq gi (nI cnt) (nI ln) 1) a1 A1 M1) go (mz_gk gj E) h1 → h1.2 = sz → fn_X11_columnSlot h (some (ad (1, 0, 0, 0))) (some (ad (17, i, 0, 0))) (nI c) k = some (none, h1, 0, 0) → fn_X12_column_b44 (g + 1) (mz_RH q sz (mz_wy (mz_q8 rs (rs.2.2 47) D) a' A' B' C')) (some q) (nI c) k (nI ln) (nI cnt) (nI i) = fn_X12_column_b172 (fn_X12_column_b44 g) (mz_RH q sz (mz_wy (mz_q8 rs (rs.2.2 47) D) a2 A2 B2 C2)) (some q) (nI c) k (nI ln) (nI cnt) (nI i) → ∃ r h2 rs', fn_X11_column_b46 (f + 1) h (some (ad (1, 0, 0, 0))) (nI c) k (nI i) = some (r, h2, 0, 0) ∧ fn_X12_column_b44 (g + 1) (mz_RH q sz (mz_wy (mz_q8 rs (rs.2.2 47) D) a' A' B' C')) (some q) (nI c) k (nI ln) (nI cnt) (nI i) = some (r, mz_RH q sz rs', 0, 0) ∧ mz_In VB (ad (1, 0, 0, 0)) l rs' h2 ∧ h2.2 = sz ∧ rs'.1 32 = rs.1 32 := by
      intro h1 a1 A1 M1 a2 A2 B2 C2 R1 s1 e1 e2
      obtain ⟨r, h2, rs', I1, I2, I3⟩ := ih (i + 1) f g cnt h1 a1 A1 M1 E a2 A2 B2 C2 D (by omega) (by omega) (by omega) (by omega) R1 s1 hE
      rw [show nI (i + 1) = nI i + 1 from (nI_add i 1).symm] at I1 I2
      refine ⟨r, h2, rs', ?_, ?_, I3⟩
      · simp only [fn_X11_column_b46, cg_1_4 hR, if_neg hle, ci_1 hR, cs_thingOf hR hm him, e1, fn_X11_column_b93, I1, zo_s, zc_t, zl_0, if_true]
      · rw [e2, fn_X12_column_b172, zo_s]
        exact I2
    rcases id Fs with ⟨rfl, -⟩ | ⟨s, rfl, hsl, -⟩
    · refine skip h a A M a' A' B' C' hR hs ?_ ?_
      · simp only [fn_X11_columnSlot, if_neg smn, ci_17 hR him, SN, fn_X11_columnSlot_b13, Option.map, zo_s, zc_t, zl_0, zr_e, z_0, z_1, if_true]
      · simp only [fn_X12_column_b44, rg_32, e32, if_neg hle, mz_RH_is, RN, mz_fn, zo_s, zc_t, zl_0, if_true]
    have s9 := nI_ne9 (show s < 2 ^ 31 by omega)
    by_cases d0 : rs.2.1 37 (16 * i + s) = 0
    case neg =>
      have d0' : ¬ (mz_wy (mz_q8 rs (rs.2.2 47) D) a' A' B' C').2.1 37 (16 * i + s) = 0 := d0
      refine skip h a A M a' A' B' C' hR hs ?_ ?_
      · simp only [fn_X11_columnSlot, if_neg smn, ci_17 hR him, SN, fn_X11_columnSlot_b13, Option.map, cg_19_2 hR him hsl, if_neg d0, zo_s, zc_t, zl_0, zr_e, z_0, z_1, if_true]
      · simp only [fn_X12_column_b44, rg_32, e32, if_neg hle, mz_RH_is, RN, mz_fn, if_neg s9, l16, rr_37, ra_37, ix_nI (show 16 * i + s < 960 by omega) (show 960 < 2 ^ 31 by omega), cl_nI (show 16 * i + s < 2 ^ 31 by omega), if_neg d0', zo_s, zc_t, zl_0, if_true]
    have d0' : (mz_wy (mz_q8 rs (rs.2.2 47) D) a' A' B' C').2.1 37 (16 * i + s) = 0 := d0
    by_cases l8 : rs.2.1 36 (16 * i + s) = 8
    · have l8' : (mz_wy (mz_q8 rs (rs.2.2 47) D) a' A' B' C').2.1 36 (16 * i + s) = 8 := l8
      refine skip h a A M a' A' B' C' hR hs ?_ ?_
      · simp only [fn_X11_columnSlot, if_neg smn, ci_17 hR him, SN, fn_X11_columnSlot_b13, Option.map, cg_19_2 hR him hsl, if_pos d0, cg_19_1 hR him hsl, if_pos l8, zo_s, zc_t, zl_0, zr_e, z_0, z_1, if_true]
      · simp only [fn_X12_column_b44, rg_32, e32, if_neg hle, mz_RH_is, RN, mz_fn, if_neg s9, l16, rr_37, ra_37, rr_36, ra_36, ix_nI (show 16 * i + s < 960 by omega) (show 960 < 2 ^ 31 by omega), cl_nI (show 16 * i + s < 2 ^ 31 by omega), if_pos d0', if_pos l8', zo_s, zc_t, zl_0, if_true]
    obtain ⟨lx, hlx, elx⟩ := (wo.2.2.2.1 i s him hsl).2.1
    have hl8 : lx < 8 := by
      rcases (show lx < 8 ∨ lx = 8 by omega) with q | rfl
      · exact q
      · exact absurd elx l8
    have l8x : ¬ nI lx = 8 := by rw [← elx]; exact l8
    have elx' : ∀ a' A' B' C', (mz_wy (mz_q8 rs (rs.2.2 47) D) a' A' B' C').2.1 36 (16 * i + s) = nI lx := fun _ _ _ _ => elx
    obtain ⟨⟨cl, hcl, e33⟩, -⟩ := wo.2.2.1 i him
    have e33' : (mz_wy (mz_q8 rs (rs.2.2 47) D) a' A' B' C').2.1 33 i = nI cl := e33
    obtain ⟨ws, T⟩ := wy_T_ex wc hcl
    obtain ⟨h1, e1, C1⟩ := cs_isBelow wc hR hcl hc T
    obtain ⟨a2, A2, B2, C2, e2, -⟩ := rs_isBelow (rs := mz_q8 rs (rs.2.2 47) D) wc q sz a' A' B' C' hcl hc (wy_T_c (rs := rs) rfl T)
    obtain ⟨a0, A0, M0, R0, -, -, s0⟩ := C1
    by_cases hw : c ∈ ws
    case neg =>
      refine skip h1 a0 A0 M0 a2 A2 B2 C2 R0 (s0.trans hs) ?_ ?_
      · simp only [fn_X11_columnSlot, if_neg smn, ci_17 hR him, SN, fn_X11_columnSlot_b13, Option.map, cg_19_2 hR him hsl, if_pos d0, cg_19_1 hR him hsl, if_neg l8, cg_1_0 hR, cg_17_0 hR him, e33, ci_2 hR, e1, if_neg hw, zo_s, zc_t, zl_0, zr_e, z_0, z_1, if_true]
      · simp only [fn_X12_column_b44, rg_32, e32, if_neg hle, mz_RH_is, RN, mz_fn, if_neg s9, l16, rr_37, ra_37, rr_36, ra_36, rr_33, ra_33, ix_nI (show 16 * i + s < 960 by omega) (show 960 < 2 ^ 31 by omega), cl_nI (show 16 * i + s < 2 ^ 31 by omega), ix_nI (show i < 60 by omega) (show 60 < 2 ^ 31 by omega), cl_nI (show i < 2 ^ 31 by omega), if_pos d0', elx', if_neg l8x, e33', e2, if_neg hw, zo_s, zc_t, zl_0, if_true]
    have CS : fn_X11_columnSlot h (some (ad (1, 0, 0, 0))) (some (ad (17, i, 0, 0))) (nI c) k = some (some (ad (19, i, s, 0)), h1, 0, 0) := by
      simp only [fn_X11_columnSlot, if_neg smn, ci_17 hR him, SN, fn_X11_columnSlot_b13, Option.map, cg_19_2 hR him hsl, if_pos d0, cg_19_1 hR him hsl, if_neg l8, cg_1_0 hR, cg_17_0 hR him, e33, ci_2 hR, e1, if_pos hw, if_neg one0, zo_s, zc_t, zl_0, zr_e, z_0, z_1, if_true]
    obtain ⟨t0, t1⟩ := cs_take R0 wo (show cnt < 60 by omega) hln him hsl d0 hl8 elx
    rcases fp_wide h1 (mz_RH q sz (mz_wy (mz_q8 rs (rs.2.2 47) D) a2 A2 B2 C2)) (rs.2.2 43 (900 * (16 * i + s))) hl8 hln with ⟨u1, u2⟩ | ⟨u1, u2, r, u3, u4⟩
    · obtain ⟨h3, e3, R3, s3⟩ := cs_comeTo ((R0.q8 (rs.2.2 47) D).wy a2 A2 B2 C2) 7
      refine ⟨(-10) - 7, h3, _, ?_, ?_, ⟨n, m, ad, lv, mk, mm, _, go, _, R3, wc, wm, wo, wt, wl, wq, rfl, by omega⟩, by omega, rfl⟩
      · simp only [fn_X11_column_b46, cg_1_4 hR, if_neg hle, ci_1 hR, cs_thingOf hR hm him, CS, if_neg smn, cg_1_6 R0, ci_25 R0 (show 1 < 2 by omega), t0 u1, ci_1 R0, e3, zo_s, zc_t, zl_0, zr_e, z_0, z_1, if_true]
      · simp only [fn_X12_column_b44, rg_32, e32, if_neg hle, mz_RH_is, RN, mz_fn, if_neg s9, l16, rr_37, ra_37, rr_36, ra_36, rr_33, ra_33, ix_nI (show 16 * i + s < 960 by omega) (show 960 < 2 ^ 31 by omega), cl_nI (show 16 * i + s < 2 ^ 31 by omega), ix_nI (show i < 60 by omega) (show 60 < 2 ^ 31 by omega), cl_nI (show i < 2 ^ 31 by omega), if_pos d0', elx', if_neg l8x, e33', e2, if_pos hw, if_neg one0, u2, rs_fails, zo_s, zc_t, zl_0, zr_e, z_0, z_1, if_true]
    · obtain ⟨h3, e3, R3, s3⟩ := t1 r u1 u3
      obtain ⟨r5, h5, rs5, I1, I2, I3⟩ := ih (i + 1) f g (cnt + 1) h3 a0 A0 M0 (vp_updL E cnt r) a2 A2 B2 C2 (vp_updL D cnt r) (by omega) (by omega) (by omega) (by omega) R3 (by omega) (fun t ht => by
        by_cases htc : t = cnt
        · subst htc; rw [pk_uLs, pk_uLs]
        · rw [pk_uLn htc, pk_uLn htc]; exact hE t (by omega))
      rw [show nI (i + 1) = nI i + 1 from (nI_add i 1).symm] at I1 I2
      rw [show nI (cnt + 1) = nI cnt + 1 from (nI_add cnt 1).symm] at I2
      have e43 : (mz_wy (mz_q8 rs (rs.2.2 47) D) a2 A2 B2 C2).2.2 43 (900 * (16 * i + s)) = rs.2.2 43 (900 * (16 * i + s)) := rfl
      refine ⟨r5, h5, rs5, ?_, ?_, I3⟩
      · simp only [fn_X11_column_b46, cg_1_4 hR, if_neg hle, ci_1 hR, cs_thingOf hR hm him, CS, if_neg smn, cg_1_6 R0, ci_25 R0 (show 1 < 2 by omega), e3, if_neg one0, fn_X11_column_b93, I1, zo_s, zc_t, zl_0]
      · simp only [fn_X12_column_b44, rg_32, e32, if_neg hle, mz_RH_is, RN, mz_fn, if_neg s9, l16, rr_37, ra_37, rr_36, ra_36, rr_33, ra_33, rr_43, ra_43, rr_48, rw_48, ix_nI (show 16 * i + s < 960 by omega) (show 960 < 2 ^ 31 by omega), cl_nI (show 16 * i + s < 2 ^ 31 by omega), ix_nI (show i < 60 by omega) (show 60 < 2 ^ 31 by omega), cl_nI (show i < 2 ^ 31 by omega), ix_nI (show cnt < 60 by omega) (show 60 < 2 ^ 31 by omega), cl_nI (show cnt < 2 ^ 31 by omega), if_pos d0', elx', if_neg l8x, e33', e2, if_pos hw, if_neg one0, u2, l900', ix_nI (show 900 * (16 * i + s) < 864000 by omega) (show 864000 < 2 ^ 31 by omega), cl_nI (show 900 * (16 * i + s) < 2 ^ 31 by omega), e43, u4, q8_48, fn_X12_column_b172, I2, zo_s, zc_t, zl_0, if_true]
end

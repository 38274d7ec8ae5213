/-! a slot of a thing under construction: b its address, e the end of its cells, p where its inner rows are -/
def sr_R (rs : mz_RS) (Q b : Nat) (p : Nat → Nat) (e : Nat) (h : mz_H) : Prop := b + 1 ≤ e ∧
  h.1 b = some (.inr (5, [.int (rs.2.1 35 Q), .int (rs.2.1 36 Q), .int (rs.2.1 37 Q), .int (rs.2.1 38 Q), va_rf (if rs.2.1 39 Q = 1 ∧ rs.2.1 37 Q ≠ 2 then some (b + 1) else none), va_rf (if rs.2.1 39 Q = 1 ∧ rs.2.1 37 Q = 2 then some (b + 1) else none)])) ∧
  (rs.2.1 39 Q = 1 → rs.2.1 37 Q ≠ 2 → b + 3 ≤ e ∧ h.1 (b + 1) = some (.inr (4, [.ref (b + 2)])) ∧ h.1 (b + 2) = some (.inl (1, mz_rl rs Q, .inr (.inl (fun c => if c < mz_rl rs Q then rs.2.2 43 (900 * Q + c) else 0))))) ∧
  (rs.2.1 39 Q = 1 → rs.2.1 37 Q = 2 → b + 2 ≤ e ∧ h.1 (b + 1) = some (.inl (14, mz_rl rs Q, .inr (.inr (.inr (.inr (fun c => if c < mz_rl rs Q ∧ rs.2.1 41 (30 * Q + c) = 1 then some (p c) else none)))))) ∧ (∀ c, c < mz_rl rs Q → rs.2.1 41 (30 * Q + c) = 1 → b + 2 ≤ p c ∧ p c + 2 ≤ e ∧ h.1 (p c) = some (.inr (4, [.ref (p c + 1)])) ∧ h.1 (p c + 1) = some (.inl (1, mz_il rs (30 * Q + c), .inr (.inl (fun x => if x < mz_il rs (30 * Q + c) then rs.2.2 43 (900 * Q + (30 * c + x)) else 0))))) ∧ ∀ c c', c < c' → c' < mz_rl rs Q → rs.2.1 41 (30 * Q + c) = 1 → rs.2.1 41 (30 * Q + c') = 1 → p c + 2 ≤ p c')
def mz_xt (hb h : mz_H) : Prop := hb.2 ≤ h.2 ∧ ∀ a, a < hb.2 → h.1 a = hb.1 a
theorem sr_R.ext {rs : mz_RS} {Q b e : Nat} {p : Nat → Nat} {h h' : mz_H} (R : sr_R rs Q b p e h) (hx : ∀ a, b ≤ a → a < e → h'.1 a = h.1 a) : sr_R rs Q b p e h' := by
  obtain ⟨r0, r1, r2, r3⟩ := R
  refine ⟨r0, by rw [hx _ (by omega) (by omega)]; exact r1, fun h1 h2 => ?_, fun h1 h2 => ?_⟩
  · obtain ⟨a1, a2, a3⟩ := r2 h1 h2
    exact ⟨a1, by rw [hx _ (by omega) (by omega)]; exact a2, by rw [hx _ (by omega) (by omega)]; exact a3⟩
  · obtain ⟨a1, a2, a3, a4⟩ := r3 h1 h2
    refine ⟨a1, by rw [hx _ (by omega) (by omega)]; exact a2, fun c hc hu => ?_, a4⟩
    obtain ⟨b1, b2, b3, b4⟩ := a3 c hc hu
    exact ⟨b1, b2, by rw [hx _ (by omega) (by omega)]; exact b3, by rw [hx _ (by omega) (by omega)]; exact b4⟩
theorem cs_rowCopy (h : mz_H) {src sa N : Nat} {F : Nat → Int64} (c1 : h.1 src = some (.inr (4, [.ref sa]))) (c2 : h.1 sa = some (.inl (1, N, .inr (.inl F)))) (l1 : src < h.2) (l2 : sa < h.2) : ∃ h', fn_X5_init_ (mz_nw h (.inr (4, [.null]))) (some h.2) (some src) = some ((), h', 1, N) ∧ h'.2 = h.2 + 2 ∧ h'.1 h.2 = some (.inr (4, [.ref (h.2 + 1)])) ∧ h'.1 (h.2 + 1) = some (.inl (1, N, .inr (.inl F))) ∧ ∀ a, a < h.2 → h'.1 a = h.1 a := by
  have g1 : mz_fR (mz_nw h (.inr (4, [.null]))) (some src) 4 0 = some (some sa) := fR_of (r := some sa) ((nw_ne _ _ (by omega)).trans c1) rfl
  have g2 : mz_arJ (mz_nw h (.inr (4, [.null]))) (some sa) = some (N, F) := arJ_of ((nw_ne _ _ (by omega)).trans c2)
  have c3 : (mz_nw (mz_nw h (.inr (4, [.null]))) (.inl (1, N, .inr (.inl F)))).1 h.2 = some (.inr (4, [.null])) := (nw_ne _ _ (Nat.ne_of_lt (Nat.lt_succ_self _))).trans (nw_at _ _)
  have g3 : mz_arJ (mz_nw (mz_nw h (.inr (4, [.null]))) (.inl (1, N, .inr (.inl F)))) (some (mz_nw h (.inr (4, [.null]))).2) = some (N, F) := arJ_of (nw_at _ _)
  obtain ⟨h3, k3, s3, d3, o3⟩ := pF_ex (k := 0) (v := va_rf (some (mz_nw h (.inr (4, [.null]))).2)) c3 (lt_rfl rfl)
  have s3' : h3.2 = h.2 + 2 := s3
  refine ⟨h3, ?_, by omega, d3, ?_, fun a ha => ?_⟩
  · simp only [fn_X5_init_, Option.isSome, g1, mz_cl, g2, g3, k3, za_s, zo_s, zc_t, zl_0, zr_e, z_0, z_1, if_true]
    simp only [Nat.zero_add]
  · rw [o3 _ (by omega)]
    exact nw_at (mz_nw h (.inr (4, [.null]))) _
  · rw [o3 _ (by omega)]
    exact (nw_ne _ _ (Nat.ne_of_lt (Nat.lt_succ_of_lt ha))).trans (nw_ne _ _ (by omega))
section
variable {VB : Nat} {n m : Nat} {rs : mz_RS} {ad : mz_T → Nat} {lv : Nat → Int32} {mk : Nat → Nat} {mm : Nat → Nat → Nat × Nat} {gi : Nat → Nat → Nat → Int32} {go : Nat → Nat → Option Nat} {gj : Nat → Nat → Int64} {hb : mz_H}
theorem cs_inCopy (hR : mz_Rp VB n m rs ad lv mk mm gi go gj hb) (w : mz_wo n m rs) {o s b : Nat} (ho : o < m) (hs : s < mz_sl rs o) (h9 : rs.2.1 39 (16 * o + s) = 1) (h2 : rs.2.1 37 (16 * o + s) = 2) (hb2 : hb.2 ≤ b) {fs : List Value} (hfs : fs[5]? = some (.ref (b + 1))) : ∀ (d i f : Nat) (h : mz_H) (p : Nat → Nat), i + d = mz_rl rs (16 * o + s) → d < f → mz_xt hb h → b + 2 ≤ h.2 → h.1 b = some (.inr (5, fs)) → h.1 (b + 1) = some (.inl (14, mz_rl rs (16 * o + s), .inr (.inr (.inr (.inr (fun c => if c < i ∧ rs.2.1 41 (30 * (16 * o + s) + c) = 1 then some (p c) else none)))))) →
    (∀ c, c < i → rs.2.1 41 (30 * (16 * o + s) + c) = 1 → b + 2 ≤ p c ∧ p c + 2 ≤ h.2 ∧ h.1 (p c) = some (.inr (4, [.ref (p c + 1)])) ∧ h.1 (p c + 1) = some (.inl (1, mz_il rs (30 * (16 * o + s) + c), .inr (.inl (fun x => if x < mz_il rs (30 * (16 * o + s) + c) then rs.2.2 43 (900 * (16 * o + s) + (30 * c + x)) else 0))))) → (∀ c c', c < c' → c' < i → rs.2.1 41 (30 * (16 * o + s) + c) = 1 → rs.2.1 41 (30 * (16 * o + s) + c') = 1 → p c + 2 ≤ p c') →
    ∃ (h' : mz_H) (p' : Nat → Nat) (kk nn : Nat), fn_X6_init__b79 f h (some b) (some (ad (19, o, s, 0))) (nI i) = some ((), h', kk, nn) ∧ kk ≤ 2 * d ∧ nn ≤ 31 * d ∧ h.2 ≤ h'.2 ∧ h'.2 ≤ h.2 + 2 * d ∧ (∀ a, a < h.2 → a ≠ b + 1 → h'.1 a = h.1 a) ∧ h'.1 (b + 1) = some (.inl (14, mz_rl rs (16 * o + s), .inr (.inr (.inr (.inr (fun c => if c < mz_rl rs (16 * o + s) ∧ rs.2.1 41 (30 * (16 * o + s) + c) = 1 then some (p' c) else none)))))) ∧ (∀ c, c < mz_rl rs (16 * o + s) → rs.2.1 41 (30 * (16 * o + s) + c) = 1 → b + 2 ≤ p' c ∧ p' c + 2 ≤ h'.2 ∧ h'.1 (p' c) = some (.inr (4, [.ref (p' c + 1)])) ∧ h'.1 (p' c + 1) = some (.inl (1, mz_il rs (30 * (16 * o + s) + c), .inr (.inl (fun x => if x < mz_il rs (30 * (16 * o + s) + c) then rs.2.2 43 (900 * (16 * o + s) + (30 * c + x)) else 0))))) ∧ ∀ c c', c < c' → c' < mz_rl rs (16 * o + s) → rs.2.1 41 (30 * (16 * o + s) + c) = 1 → rs.2.1 41 (30 * (16 * o + s) + c') = 1 → p' c + 2 ≤ p' c' := by
  have h30 := (rl_le w ho hs).1
  have b19 := cb_19 hR ho hs
  have b22 := cb_22 hR ho hs h9 h2
  have lR : mz_rl rs (16 * o + s) < 2 ^ 31 := by omega
  intro d
  induction d with
  | zero =>
    intro i f h p hi hf hx hl c0 c1 hp hm
    obtain ⟨f, rfl⟩ : ∃ g', f = g' + 1 := ⟨f - 1, by omega⟩
    have e : i = mz_rl rs (16 * o + s) := by omega
    subst e
    have g5 : mz_fR h (some b) 5 5 = some (some (b + 1)) := fR_of (r := some (b + 1)) c0 hfs
    exact ⟨h, p, 0, 0, by simp only [fn_X6_init__b79, g5, len_of c1, if_pos (Int32.le_refl _), zo_s, zc_t, zl_0, zr_e, z_0, z_1, if_true], by omega, by omega, by omega, by omega, fun _ _ _ => rfl, c1, hp, hm⟩
  | succ d ih =>
    intro i f h p hi hf hx hl c0 c1 hp hm
    obtain ⟨f, rfl⟩ : ∃ g', f = g' + 1 := ⟨f - 1, by omega⟩
    have hiR : i < mz_rl rs (16 * o + s) := by omega
    have ng := nI_ge hiR lR
    have g5 : mz_fR h (some b) 5 5 = some (some (b + 1)) := fR_of (r := some (b + 1)) c0 hfs
    have c19 : h.1 (ad (19, o, s, 0)) = _ := (hx.2 _ b19).trans (cc_19 hR ho hs)
    have g19 : mz_fR h (some (ad (19, o, s, 0))) 5 5 = some (some (ad (22, o, s, 0))) := fR_of (r := some (ad (22, o, s, 0))) c19 (by rw [if_pos (⟨h9, h2⟩ : rs.2.1 39 (16 * o + s) = 1 ∧ rs.2.1 37 (16 * o + s) = 2)]; rfl)
    have c22 : h.1 (ad (22, o, s, 0)) = _ := (hx.2 _ b22).trans (cc_22 hR ho hs h9 h2)
    have g22 : mz_aR h (some (ad (22, o, s, 0))) 14 (nI i) = some (if rs.2.1 41 (30 * (16 * o + s) + i) = 1 then some (ad (23, o, s, i)) else none) := by
      simp only [mz_aR, mz_ar, c22, if_true, ix_nI hiR lR, cl_nI (show i < 2 ^ 31 by omega), hiR, true_and]
    rcases (w.2.2.2.2.1 o s i ho hs (by omega) h2 h9 hiR).1 with h4 | h4
    · have n4 : ¬ rs.2.1 41 (30 * (16 * o + s) + i) = 1 := by rw [h4]; decide
      rw [if_neg n4] at g22
      have ef : (fun c => if c < i ∧ rs.2.1 41 (30 * (16 * o + s) + c) = 1 then some (p c) else none) = (fun c => if c < i + 1 ∧ rs.2.1 41 (30 * (16 * o + s) + c) = 1 then some (p c) else none) := funext fun c => by
        by_cases hc : c = i
        · subst hc
          rw [if_neg (fun z => n4 z.2), if_neg (fun z => n4 z.2)]
        · by_cases hci : c < i
          · simp only [hci, show c < i + 1 from by omega]
          · simp only [hci, show ¬ c < i + 1 from by omega]
      rw [ef] at c1
      obtain ⟨h', p', kk, nn, k1, r⟩ := ih (i + 1) f h p (by omega) (by omega) hx hl c0 c1 (fun c hc hu => hp c (by rcases (show c = i ∨ c < i by omega) with rfl | z; exact absurd hu n4; exact z) hu) (fun c c' h1 h3 u u' => hm c c' h1 (by rcases (show c' = i ∨ c' < i by omega) with rfl | z; exact absurd u' n4; exact z) u u')
      rw [show nI (i + 1) = nI i + 1 from (nI_add i 1).symm] at k1
      obtain ⟨r1, r2, r3, r4, r5⟩ := r
      exact ⟨h', p', kk, nn, by simp only [fn_X6_init__b79, g5, len_of c1, if_neg ng, g19, g22, if_true, fn_X6_init__b116, k1, zo_s], by omega, by omega, r3, by omega, r5⟩
    · have b23 := cb_23 hR ho hs h9 h2 hiR h4
      have b24 := cb_24 hR ho hs h9 h2 hiR h4
      have hil := (il_le w ho hs h9 h2 hiR h4).1
      rw [if_pos h4] at g22
      have c23 : h.1 (ad (23, o, s, i)) = _ := (hx.2 _ b23).trans (cc_23 hR ho hs h9 h2 hiR h4)
      have c24 : h.1 (ad (24, o, s, i)) = _ := (hx.2 _ b24).trans (cc_24 hR ho hs h9 h2 hiR h4)
      have hx2 := hx.1
      obtain ⟨h1, k1, s1, d1, d2, o1⟩ := cs_rowCopy h c23 c24 (by omega) (by omega)
      have c1' : h1.1 (b + 1) = _ := (o1 _ (by omega)).trans c1
      obtain ⟨h2', k2, s2, d3, o2⟩ := sR_ex (j := i) (v := some h.2) c1' hiR lR (by simp only [is_of d1, Bool.or_true])
      have g5' : mz_fR (mz_nw h (.inr (4, [.null]))) (some (ad (19, o, s, 0))) 5 5 = some (some (ad (22, o, s, 0))) := fR_of (r := some (ad (22, o, s, 0))) ((nw_ne _ _ (by omega)).trans c19) (by rw [if_pos (⟨h9, h2⟩ : rs.2.1 39 (16 * o + s) = 1 ∧ rs.2.1 37 (16 * o + s) = 2)]; rfl)
      have g22' : mz_aR (mz_nw h (.inr (4, [.null]))) (some (ad (22, o, s, 0))) 14 (nI i) = some (some (ad (23, o, s, i))) := by
        have c22' : (mz_nw h (.inr (4, [.null]))).1 (ad (22, o, s, 0)) = _ := (nw_ne _ _ (by omega)).trans c22
        simp only [mz_aR, mz_ar, c22', if_true, ix_nI hiR lR, cl_nI (show i < 2 ^ 31 by omega), hiR, true_and, if_pos h4]
      have ef : (va_up (fun c => if c < i ∧ rs.2.1 41 (30 * (16 * o + s) + c) = 1 then some (p c) else none) i (some h.2)) = (fun c => if c < i + 1 ∧ rs.2.1 41 (30 * (16 * o + s) + c) = 1 then some (va_up p i h.2 c) else none) := funext fun c => by
        by_cases hc : c = i
        · subst hc
          rw [va_up_self, va_up_self, if_pos ⟨Nat.lt_succ_self _, h4⟩]
        · rw [va_up_ne _ _ hc, va_up_ne _ _ hc]
          by_cases hci : c < i
          · simp only [hci, show c < i + 1 from by omega]
          · simp only [hci, show ¬ c < i + 1 from by omega]
      rw [ef] at d3
      obtain ⟨h', p', kk, nn, k3, r1, r2, r3, r4, r5, r6⟩ := ih (i + 1) f h2' (va_up p i h.2) (by omega) (by omega) ⟨by omega, fun a ha => by rw [o2 _ (by omega), o1 _ (by omega), hx.2 a ha]⟩ (by omega) ((o2 _ (by omega)).trans ((o1 _ (by omega)).trans c0)) d3 (fun c hc hu => by
        by_cases hci : c = i
        · subst hci
          rw [va_up_self]
          exact ⟨by omega, by omega, (o2 _ (by omega)).trans d1, (o2 _ (by omega)).trans d2⟩
        · rw [va_up_ne _ _ hci]
          obtain ⟨q1, q2, q3, q4⟩ := hp c (by omega) hu
          exact ⟨q1, by omega, (o2 _ (by omega)).trans ((o1 _ (by omega)).trans q3), (o2 _ (by omega)).trans ((o1 _ (by omega)).trans q4)⟩) (fun c c' h1 h3 u u' => by
        by_cases hci : c' = i
        · subst hci
          rw [va_up_self, va_up_ne _ _ (by omega)]
          exact (hp c (by omega) u).2.1
        · rw [va_up_ne _ _ hci, va_up_ne _ _ (by omega)]
          exact hm c c' h1 (by omega) u u')
      rw [show nI (i + 1) = nI i + 1 from (nI_add i 1).symm] at k3
      refine ⟨h', p', kk + mz_il rs (30 * (16 * o + s) + i) * 0 + 2, nn + mz_il rs (30 * (16 * o + s) + i) + 1, ?_, by omega, by omega, by omega, by omega, fun a ha hne => ?_, r6⟩
      · simp only [fn_X6_init__b79, g5, len_of c1, if_neg ng, g19, g22, if_neg smn, zn_o, g5', g22', is_of (nw_at h (.inr (4, [.null]))), k1, k2, fn_X6_init__b116, k3, zl_s, za_s, zo_s, zc_t]
        simp only [Nat.mul_zero, Nat.add_zero, Nat.add_assoc, Nat.reduceAdd]
      · rw [r5 a (by omega) hne, o2 _ hne, o1 _ ha]
end

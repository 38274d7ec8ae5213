/-! inner -/
def mz_r3 (rs : mz_RS) (Q i N : Nat) : mz_RS := mz_q3 (mz_sa (mz_sa rs 41 (30 * Q + i) 1) 42 (30 * Q + i) (nI N)) (fun p => if 900 * Q + 30 * i ≤ p ∧ p < 900 * Q + 30 * i + N then mz_z8 (rs.2.1 36 Q) else rs.2.2 43 p)
section
variable {VB : Nat} {n m : Nat} {rs : mz_RS} {ad : mz_T → Nat} {lv : Nat → Int32} {mk : Nat → Nat} {mm : Nat → Nat → Nat × Nat} {gi : Nat → Nat → Nat → Int32} {go : Nat → Nat → Option Nat} {gj : Nat → Nat → Int64} {h : mz_H}
theorem aw_r3 {Q i N : Nat} (hi : i < 30) (hN : N ≤ 30) : mz_aw rs (mz_r3 rs Q i N) Q := by
  refine ⟨rfl, fun p hp => ⟨rfl, rfl, rfl, rfl, rfl, rfl⟩, fun p j hp hj => ⟨pk_un (by omega), pk_un (by omega)⟩, fun p j hp hj => ?_⟩
  show (if _ then _ else rs.2.2 43 (900 * p + j)) = _
  exact if_neg (by omega)
theorem cw_inner (hR : mz_Rp VB n m rs ad lv mk mm gi go gj h) (w : mz_wo n m rs) {o s i0 N : Nat} (ho : o < m) (hs : s < mz_sl rs o) (h9 : rs.2.1 39 (16 * o + s) = 1) (h2 : rs.2.1 37 (16 * o + s) = 2) (hi : i0 < mz_rl rs (16 * o + s)) (hN : N ≤ 30) (hv : h.2 + 2 ≤ VB) : ∃ h', (mz_oN h 4 1 [.null] fun v7 h => mz_op (mz_fI h (some (ad (19, o, s, 0))) 5 1) fun v8 => mz_chk (mz_is h v7 4) <| mz_call (fn_X5_init h v7 (nI N) v8) fun _ h => mz_op (mz_sR h (some (ad (22, o, s, 0))) 14 (nI i0) v7) fun h => mz_ret (1 : Int32) h) = some (1, h', 2, N + 1) ∧ mz_Rp VB n m (mz_r3 rs (16 * o + s) i0 N) (mz_ap (mz_ap ad (23, o, s, i0) h.2) (24, o, s, i0) (h.2 + 1)) lv mk mm gi go gj h' ∧ h'.2 = h.2 + 2 := by
  have h16 := (mz_sl_le w ho).1
  have h30 := (rl_le w ho hs).1
  have A := aw_r3 (rs := rs) (Q := 16 * o + s) (show i0 < 30 by omega) hN
  obtain ⟨h1, k1, s1, c1, c2, o1⟩ := cs_rowNew h (rs.2.1 36 (16 * o + s)) hN
  have b19 := cb_19 hR ho hs
  have b22 := cb_22 hR ho hs h9 h2
  have c19a : (mz_nw h (.inr (4, [.null]))).1 (ad (19, o, s, 0)) = _ := (nw_ne _ _ (by omega)).trans (cc_19 hR ho hs)
  have g1 : mz_fI (mz_nw h (.inr (4, [.null]))) (some (ad (19, o, s, 0))) 5 1 = some (rs.2.1 36 (16 * o + s)) := fI_of c19a rfl
  have c22 : h1.1 (ad (22, o, s, 0)) = _ := (o1 _ b22).trans (cc_22 hR ho hs h9 h2)
  obtain ⟨hh, k2, s2, c3, o2⟩ := sR_ex (j := i0) (v := some h.2) c22 hi (by omega) (by simp only [is_of c1, Bool.or_true])
  have e41 : (mz_r3 rs (16 * o + s) i0 N).2.1 41 (30 * (16 * o + s) + i0) = 1 := pk_us
  have e42 : (mz_r3 rs (16 * o + s) i0 N).2.1 42 (30 * (16 * o + s) + i0) = nI N := pk_us
  have e41' : ∀ p, p ≠ 30 * (16 * o + s) + i0 → (mz_r3 rs (16 * o + s) i0 N).2.1 41 p = rs.2.1 41 p := fun p hp => pk_un hp
  have e42' : ∀ p, p ≠ 30 * (16 * o + s) + i0 → (mz_r3 rs (16 * o + s) i0 N).2.1 42 p = rs.2.1 42 p := fun p hp => pk_un hp
  have eil : mz_il (mz_r3 rs (16 * o + s) i0 N) (30 * (16 * o + s) + i0) = N := by unfold mz_il; rw [e42, cl_nI (by omega)]
  refine ⟨hh, ?_, ?_, by omega⟩
  · simp only [zn_o, g1, is_of (nw_at h (.inr (4, [.null]))), k1, k2, zl_s, za_s, zo_s, zc_t, zl_0, zr_e, z_0, z_1, if_true]
    simp only [Nat.zero_add, Nat.reduceAdd]
  refine hR.bulk (fun t => t = (23, o, s, i0) ∨ t = (24, o, s, i0)) (fun t => t = (22, o, s, 0)) (by omega) (by omega) (fun t ht => ?_) (fun t ht => ?_) (fun t t' q1 q2 e => ?_) (fun a ha hC => ?_) (fun f i j k' e hN' he => ?_) (fun f i j k' e hC _ he => ?_) ?_
  · rw [ap_ne _ _ (fun q => ht (Or.inr q)), ap_ne _ _ (fun q => ht (Or.inl q))]
  · rcases ht with rfl | rfl
    · rw [ap_ne _ _ (by simp), ap_at]
      omega
    · rw [ap_at]
      omega
  · rcases q1 with rfl | rfl <;> rcases q2 with rfl | rfl
    · rfl
    · rw [ap_ne _ _ (by simp), ap_at, ap_at] at e
      omega
    · rw [ap_ne _ _ (by simp : ((23, o, s, i0) : mz_T) ≠ (24, o, s, i0)), ap_at, ap_at] at e
      omega
    · rfl
  · rw [o2 _ (hC _ rfl), o1 _ ha]
  · rcases hN' with q | q
    · cases q
      have he' : mz_f23 n m (mz_r3 rs (16 * o + s) i0 N) (mz_ap (mz_ap ad (23, o, s, i0) h.2) (24, o, s, i0) (h.2 + 1)) lv mk mm gi go gj o s i0 = some e := he
      rw [mz_f23, if_pos ⟨ho, hs, h9, h2, hi, e41⟩, ap_at] at he'
      cases he'
      rw [ap_ne _ _ (by simp), ap_at, o2 _ (by omega), c1]
    · cases q
      have he' : mz_f24 n m (mz_r3 rs (16 * o + s) i0 N) (mz_ap (mz_ap ad (23, o, s, i0) h.2) (24, o, s, i0) (h.2 + 1)) lv mk mm gi go gj o s i0 = some e := he
      rw [mz_f24, if_pos ⟨ho, hs, h9, h2, hi, e41⟩, eil] at he'
      cases he'
      rw [ap_at, o2 _ (by omega), c2]
      refine congrArg (fun f => some (Sum.inl (1, N, Sum.inr (Sum.inl f)))) (funext fun c => ?_)
      by_cases hc : c < N
      · rw [if_pos hc, if_pos hc]
        exact (if_pos (by omega)).symm
      · rw [if_neg hc, if_neg hc]
  · cases hC
    have he' : mz_f22 n m (mz_r3 rs (16 * o + s) i0 N) (mz_ap (mz_ap ad (23, o, s, i0) h.2) (24, o, s, i0) (h.2 + 1)) lv mk mm gi go gj o s 0 = some e := he
    rw [mz_f22, if_pos ⟨ho, hs, rfl, h9, h2⟩] at he'
    cases he'
    refine ⟨?_, b22⟩
    rw [c3]
    refine congrArg (fun f => some (Sum.inl (14, mz_rl rs (16 * o + s), Sum.inr (Sum.inr (Sum.inr (Sum.inr f)))))) (funext fun c => ?_)
    by_cases hc : c = i0
    · subst hc
      rw [va_up_self, e41, if_pos ⟨hi, rfl⟩, ap_ne _ _ (by simp), ap_at]
    · rw [va_up_ne _ _ hc, e41' _ (by omega), ap_ne _ _ (by simp), ap_ne _ _ (by simp [hc])]
      rfl
  · have ea : ∀ i j, ¬ (i = o ∧ j = s) → ∀ f k', mz_ap (mz_ap ad (23, o, s, i0) h.2) (24, o, s, i0) (h.2 + 1) (f, i, j, k') = ad (f, i, j, k') := fun i j hij f k' => by
      rw [ap_ne _ _ (by simp; intro _ a b; exact absurd ⟨a, b⟩ hij), ap_ne _ _ (by simp; intro _ a b; exact absurd ⟨a, b⟩ hij)]
    apply mz_hb <;> first | (exact fun _ _ _ _ => Or.inl rfl) | skip
    · intro i j k' hq
      by_cases hij : i = o ∧ j = s
      · obtain ⟨rfl, rfl⟩ := hij
        exact Or.inr (if_neg fun z => z.2.2.2.2 h2)
      · exact Or.inl (keepSA w (show s < 16 by omega) A i j k' hij (ea i j hij)).2.2.1
    · intro i j k' hq
      by_cases hij : i = o ∧ j = s
      · obtain ⟨rfl, rfl⟩ := hij
        exact Or.inr (if_neg fun z => hq.2 (by rw [z.2.2.1]))
      · exact Or.inl (keepSA w (show s < 16 by omega) A i j k' hij (ea i j hij)).2.2.2.1
    · intro i j k' hq
      by_cases hij : i = o ∧ j = s
      · obtain ⟨rfl, rfl⟩ := hij
        have hk : k' ≠ i0 := fun e => hq.1 (Or.inl (by rw [e]))
        left
        unfold mz_f23
        rw [e41' _ (by omega), ap_ne _ _ (by simp [hk]), ap_ne _ _ (by simp)]
        rfl
      · exact Or.inl (keepSA w (show s < 16 by omega) A i j k' hij (ea i j hij)).2.2.2.2.1
    · intro i j k' hq
      by_cases hij : i = o ∧ j = s
      · obtain ⟨rfl, rfl⟩ := hij
        have hk : k' ≠ i0 := fun e => hq.1 (Or.inr (by rw [e]))
        by_cases hc : i < m ∧ j < mz_sl rs i ∧ rs.2.1 39 (16 * i + j) = 1 ∧ rs.2.1 37 (16 * i + j) = 2 ∧ k' < mz_rl rs (16 * i + j) ∧ rs.2.1 41 (30 * (16 * i + j) + k') = 1
        · left
          have hil := (il_le w ho hs h9 h2 hc.2.2.2.2.1 hc.2.2.2.2.2).1
          have ei : mz_il (mz_r3 rs (16 * i + j) i0 N) (30 * (16 * i + j) + k') = mz_il rs (30 * (16 * i + j) + k') := by unfold mz_il; rw [e42' _ (by omega)]
          unfold mz_f24
          rw [e41' _ (by omega), ei, if_pos hc]
          refine (if_pos hc).trans ?_
          refine congrArg (fun f => some (Sum.inl (1, mz_il rs (30 * (16 * i + j) + k'), Sum.inr (Sum.inl f)))) (funext fun c => ?_)
          by_cases hcc : c < mz_il rs (30 * (16 * i + j) + k')
          · rw [if_pos hcc, if_pos hcc]
            exact if_neg (by omega)
          · rw [if_neg hcc, if_neg hcc]
        · right
          refine if_neg fun z => hc ?_
          rw [e41' _ (by omega)] at z
          exact z
      · exact Or.inl (keepSA w (show s < 16 by omega) A i j k' hij (ea i j hij)).2.2.2.2.2
theorem wo_r3 (w : mz_wo n m rs) {o s i0 N : Nat} (ho : o < m) (hs : s < mz_sl rs o) (h2 : rs.2.1 37 (16 * o + s) = 2) (hi : i0 < 30) (hN : N ≤ 30) : mz_wo n m (mz_r3 rs (16 * o + s) i0 N) := by
  have h16 := (mz_sl_le w ho).1
  obtain ⟨a1, a2, a3, a4, a5, a6, a7⟩ := id w
  have e41 : (mz_r3 rs (16 * o + s) i0 N).2.1 41 (30 * (16 * o + s) + i0) = 1 := pk_us
  have e42 : (mz_r3 rs (16 * o + s) i0 N).2.1 42 (30 * (16 * o + s) + i0) = nI N := pk_us
  have e41' : ∀ p, p ≠ 30 * (16 * o + s) + i0 → (mz_r3 rs (16 * o + s) i0 N).2.1 41 p = rs.2.1 41 p := fun p hp => pk_un hp
  have e42' : ∀ p, p ≠ 30 * (16 * o + s) + i0 → (mz_r3 rs (16 * o + s) i0 N).2.1 42 p = rs.2.1 42 p := fun p hp => pk_un hp
  refine ⟨a1, a2, a3, a4, fun o' s' i b1 b2 b3 b4 b5 b6 => ?_, a6, fun o' s' i b1 b2 b3 b4 b5 => ?_⟩
  · by_cases hp : 30 * (16 * o' + s') + i = 30 * (16 * o + s) + i0
    · rw [hp, e41, e42]
      exact ⟨Or.inr rfl, fun _ => ⟨N, hN, rfl⟩⟩
    · rw [e41' _ hp, e42' _ hp]
      exact a5 o' s' i b1 b2 b3 b4 b5 b6
  · have b2' : s' < mz_sl rs o' := b2
    have b5' : i < mz_rl rs (16 * o' + s') := b5
    have h30 := (rl_le w b1 b2').1
    have h16' := (mz_sl_le w b1).1
    have hp : 16 * o' + s' ≠ 16 * o + s := fun e => b3 (by rw [e]; exact h2)
    have e : (mz_r3 rs (16 * o + s) i0 N).2.2 43 (900 * (16 * o' + s') + i) = rs.2.2 43 (900 * (16 * o' + s') + i) := if_neg (by omega)
    rw [e]
    exact a7 o' s' i b1 b2 b3 b4 b5
end
theorem k_inner {VB o q l : Nat} {rs : mz_RS} {h : mz_H} (H : mz_In VB o (l + 1) rs h) (x y i z : Int32) : mz_Ok VB o q l rs (fun h => fn_X11_inner h (some o) x y i z) (fun h => fn_X12_inner h (some q) x y i z) h := by
  refine ok_flt H (fun _ => rfl) (fun _ => rfl) (fun h1 H1 => ?_)
  clear H
  revert H1
  generalize mz_si rs 0 0 = rs
  clear h
  intro H
  generalize h1 = h at H ⊢
  obtain ⟨n, m, ad, lv, mk, mm, gi, go, gj, hR, w⟩ := id H
  obtain ⟨wc, wm, wo, wt, wl, wq, wa, wv⟩ := id w
  obtain rfl : ad (1, 0, 0, 0) = o := wa
  have hn40 := wc.1
  have hm60 := wo.1
  rcases mz_noS wo x y with hx | ⟨a, s, ha, hs, rfl, rfl⟩
  · exact mz_Ok.same H (-1) (by simp only [ci_1 hR, cs_slotOf_no hR wo hx, zo_s, zc_t, zl_0, zr_e, z_0, z_1, if_true]) (by simp only [mz_RH_is, rs_isSlot_no q h.2 wo hx, zo_s, zc_t, zl_0, zr_e, z_0, z_1, if_true])
  have h16 := (mz_sl_le wo ha).1
  obtain ⟨h30, e40⟩ := rl_le wo ha hs
  by_cases c1 : z ≤ 30
  case neg => exact mz_Ok.same H (-2) (by simp only [ci_1 hR, cs_slotOf hR wo ha hs, if_neg smn, if_neg c1, zo_s, zc_t, zl_0, zr_e, z_0, z_1, if_true]) (by simp only [mz_RH_is, rs_isSlot q h.2 wo ha hs, if_neg one0, if_neg c1, zo_s, zc_t, zl_0, zr_e, z_0, z_1, if_true])
  by_cases h2 : rs.2.1 37 (16 * a + s) = 2
  case neg => exact mz_Ok.same H (-3) (by simp only [ci_1 hR, cs_slotOf hR wo ha hs, if_neg smn, if_pos c1, cg_19_2 hR ha hs, if_neg h2, zo_s, zc_t, zl_0, zr_e, z_0, z_1, if_true]) (by simp only [mz_RH_is, rs_isSlot q h.2 wo ha hs, if_neg one0, if_pos c1, l16, rr_37, ra_37, ix_nI (show 16 * a + s < 960 by omega) (show 960 < 2 ^ 31 by omega), cl_nI (show 16 * a + s < 2 ^ 31 by omega), if_neg h2, zo_s, zc_t, zl_0, zr_e, z_0, z_1, if_true])
  by_cases c2 : 0 ≤ z
  case neg =>
    refine ok_fail H 5 ?_ (fun sz => ?_)
    · simp only [ci_1 hR, cs_slotOf hR wo ha hs, if_neg smn, if_pos c1, cg_19_2 hR ha hs, if_pos h2, if_neg c2, zo_s, zc_t, zl_0]
    · simp only [mz_RH_is, rs_isSlot q sz wo ha hs, if_neg one0, if_pos c1, l16, rr_37, ra_37, ix_nI (show 16 * a + s < 960 by omega) (show 960 < 2 ^ 31 by omega), cl_nI (show 16 * a + s < 2 ^ 31 by omega), if_pos h2, if_neg c2, zo_s, zc_t, zl_0, if_true]
  obtain ⟨N, hN, rfl⟩ : ∃ i : Nat, i ≤ 30 ∧ z = nI i := nI_of2 (M := 30) rfl (Int32.not_lt.mpr c2) c1
  have z11 : (1 : Int32) &&& 1 = 1 := by decide
  have d01 : ¬ (0 : Int32) = 1 := by decide
  rcases (wo.2.2.2.1 a s ha hs).2.2.2.1 with h9 | h9
  · refine ok_fail H 1 ?_ (fun sz => ?_)
    · simp only [ci_1 hR, cs_slotOf hR wo ha hs, if_neg smn, if_pos c1, cg_19_2 hR ha hs, if_pos h2, if_pos c2, cg_19_5 hR ha hs, h9, d01, false_and, if_false, zo_s, zc_t, zl_0, if_true]
    · simp only [mz_RH_is, rs_isSlot q sz wo ha hs, if_neg one0, if_pos c1, l16, rr_37, ra_37, rr_39, ra_39, ix_nI (show 16 * a + s < 960 by omega) (show 960 < 2 ^ 31 by omega), cl_nI (show 16 * a + s < 2 ^ 31 by omega), if_pos h2, if_pos c2, h9, zo_s, zc_t, zl_0, if_true]
  have rB : (if rs.2.1 39 (16 * a + s) = 1 ∧ rs.2.1 37 (16 * a + s) = 2 then some (ad (22, a, s, 0)) else none) = some (ad (22, a, s, 0)) := if_pos ⟨h9, h2⟩
  have m9 : ¬ rs.2.1 39 (16 * a + s) = 0 := by rw [h9]; decide
  have el : Int32.ofNat (mz_rl rs (16 * a + s)) = nI (mz_rl rs (16 * a + s)) := rfl
  rcases mz_no i (show mz_rl rs (16 * a + s) < 2 ^ 31 by omega) with hi | ⟨i0, hi0, rfl⟩
  · refine ok_fail H 3 ?_ (fun sz => ?_)
    · by_cases c3 : i < 0
      · simp only [ci_1 hR, cs_slotOf hR wo ha hs, if_neg smn, if_pos c1, cg_19_2 hR ha hs, if_pos h2, if_pos c2, cg_19_5 hR ha hs, rB, if_pos c3, fn_X11_inner_b81, zo_s, zc_t, zl_0]
      · simp only [ci_1 hR, cs_slotOf hR wo ha hs, if_neg smn, if_pos c1, cg_19_2 hR ha hs, if_pos h2, if_pos c2, cg_19_5 hR ha hs, rB, if_neg c3, cl_22a hR ha hs h9 h2, el, if_neg (Int32.not_lt.mpr (hi.resolve_left c3)), fn_X11_inner_b81, zo_s, zc_t, zl_0]
    · by_cases c3 : i < 0
      · simp only [mz_RH_is, rs_isSlot q sz wo ha hs, if_neg one0, if_pos c1, l16, rr_37, ra_37, rr_39, ra_39, ix_nI (show 16 * a + s < 960 by omega) (show 960 < 2 ^ 31 by omega), cl_nI (show 16 * a + s < 2 ^ 31 by omega), if_pos h2, if_pos c2, if_neg m9, if_pos c3, fn_X12_inner_b90, zo_s, zc_t, zl_0, if_true]
      · simp only [mz_RH_is, rs_isSlot q sz wo ha hs, if_neg one0, if_pos c1, l16, rr_37, ra_37, rr_39, ra_39, rr_40, ra_40, ix_nI (show 16 * a + s < 960 by omega) (show 960 < 2 ^ 31 by omega), cl_nI (show 16 * a + s < 2 ^ 31 by omega), if_pos h2, if_pos c2, if_neg m9, if_neg c3, e40, if_neg (Int32.not_lt.mpr (hi.resolve_left c3)), fn_X12_inner_b90, zo_s, zc_t, zl_0, if_true]
  have c3 := nI_pos (show i0 < 2 ^ 31 by omega)
  have hl := nI_lt hi0 (show mz_rl rs (16 * a + s) < 2 ^ 31 by omega)
  obtain ⟨h1, k1, R1, s1⟩ := cw_inner hR wo ha hs h9 h2 hi0 hN (by omega)
  have L : fn_X12_clear (mz_RH q h1.2 (mz_sa (mz_sa rs 41 (30 * (16 * a + s) + i0) 1) 42 (30 * (16 * a + s) + i0) (nI N))) (some q) (nI (16 * a + s)) (nI (30 * i0)) (nI N) = some ((), mz_RH q h1.2 (mz_r3 rs (16 * a + s) i0 N), 0, 0) := rs_clear' q h1.2 (mz_sa (mz_sa rs 41 (30 * (16 * a + s) + i0) 1) 42 (30 * (16 * a + s) + i0) (nI N)) (Q := 16 * a + s) (B := 30 * i0) (N := N) (by omega) (by omega)
  refine ⟨1, h1, 2, N + 1, mz_r3 rs (16 * a + s) i0 N, ?_, ?_, ⟨n, m, _, lv, mk, mm, gi, go, gj, R1, wc, wm, wo_r3 wo ha hs h2 (by omega) hN, wt, wl, wq, rfl, by omega⟩, by omega, Nat.le_refl _, by omega, by omega⟩
  · simp only [ci_1 hR, cs_slotOf hR wo ha hs, if_neg smn, if_pos c1, cg_19_2 hR ha hs, if_pos h2, if_pos c2, cg_19_5 hR ha hs, rB, if_neg c3, cl_22a hR ha hs h9 h2, el, if_pos hl, zo_s, zc_t, zl_0]
    exact k1
  · simp only [mz_RH_is, rs_isSlot q h1.2 wo ha hs, if_neg one0, if_pos c1, l16, rr_37, ra_37, rr_39, ra_39, rr_40, ra_40, ix_nI (show 16 * a + s < 960 by omega) (show 960 < 2 ^ 31 by omega), cl_nI (show 16 * a + s < 2 ^ 31 by omega), if_pos h2, if_pos c2, if_neg m9, if_neg c3, e40, if_pos hl, rr_41, rw_41, rr_42, rw_42, l30, ix_nI (show 30 * (16 * a + s) + i0 < 28800 by omega) (show 28800 < 2 ^ 31 by omega), cl_nI (show 30 * (16 * a + s) + i0 < 2 ^ 31 by omega), z11, l30' i0, L, zo_s, zc_t, zl_0, zr_e, z_0, z_1, if_true]

/-! get, size, as, link; a cell is written -/
theorem updL_win (g : Nat → Int64) (N : Nat) (p : Nat → Nat) (x : Nat) (hx : x < N) (v : Int64) (hp : ∀ k, p k = p x → k = x) : (fun k => if k < N then vp_updL g (p x) v (p k) else 0) = vp_updL (fun c => if c < N then g (p c) else 0) x v := by
  funext k
  by_cases hk : k = x
  · subst hk
    rw [if_pos hx, pk_uLs, pk_uLs]
  · rw [pk_uLn hk, pk_uLn (fun e => hk (hp k e))]
theorem updL_out (g : Nat → Int64) (N : Nat) (p : Nat → Nat) (y : Nat) (v : Int64) (hp : ∀ k, k < N → p k ≠ y) : (fun k => if k < N then vp_updL g y v (p k) else 0) = (fun k => if k < N then g (p k) else 0) := by
  funext k
  by_cases hk : k < N
  · rw [if_pos hk, if_pos hk, pk_uLn (hp k hk)]
  · rw [if_neg hk, if_neg hk]
section
variable {VB : Nat} {n m : Nat} {rs : mz_RS} {ad : mz_T → Nat} {lv : Nat → Int32} {mk : Nat → Nat} {mm : Nat → Nat → Nat × Nat} {gi : Nat → Nat → Nat → Int32} {go : Nat → Nat → Option Nat} {gj : Nat → Nat → Int64} {h : mz_H}
theorem aw_cell {o s y : Nat} (hy : y < 900) (v : Int64) : mz_aw rs (mz_sj rs 43 (900 * (16 * o + s) + y) v) (16 * o + s) := by
  refine ⟨rfl, fun p hp => ⟨rfl, rfl, rfl, rfl, rfl, rfl⟩, fun p i hp hi => ⟨rfl, rfl⟩, fun p i hp hi => ?_⟩
  show vp_updL (rs.2.2 43) (900 * (16 * o + s) + y) v (900 * p + i) = _
  exact pk_uLn (by omega)
theorem cs_putCell (hR : mz_Rp VB n m rs ad lv mk mm gi go gj h) (w : mz_wo n m rs) {o s : Nat} (ho : o < m) (hs : s < mz_sl rs o) {i j : Int32} {t : mz_T} {x x2 : Nat} (P : mz_PC rs o s i j 0 t x x2) (v : Int64) : ∃ h', fn_X6_putCell h (some (ad (19, o, s, 0))) i j v = some ((), h', 0, 0) ∧ mz_Rp VB n m (mz_sj rs 43 x2 v) ad lv mk mm gi go gj h' ∧ h'.2 = h.2 ∧ ∃ y, y < 900 ∧ x2 = 900 * (16 * o + s) + y := by
  have h30 := (rl_le w ho hs).1
  have h16 := (mz_sl_le w ho).1
  rcases P with ⟨h1, q⟩ | ⟨h1, hi, q⟩ | ⟨h1, h2, rfl, hx, -, rfl, rfl⟩ | ⟨h1, h2, i0, rfl, hi0, P⟩
  · cases q
  · exact absurd q.symm i31
  · have hh := cs_has hR (cc_20 hR ho hs h1 h2) (cc_21 hR ho hs h1 h2) (nI x)
    have A := aw_cell (rs := rs) (o := o) (s := s) (show x < 900 by omega) v
    refine ⟨_, ?_, hR.up (e := .inl (1, mz_rl rs (16 * o + s), .inr (.inl (vp_updL (fun c => if c < mz_rl rs (16 * o + s) then rs.2.2 43 (900 * (16 * o + s) + c) else 0) x v)))) 21 o s 0 (Or.inl ?_) (cb_21 hR ho hs h1 h2) ?_, rfl, x, by omega, rfl⟩
    · simp only [fn_X6_putCell, ci_19 hR ho hs, cs_rowAt1 hR ho hs h1 h2, cg_19_2 hR ho hs, if_neg h2, fn_X6_putCell_b20, if_neg smn, ci_20 hR ho hs h1 h2, hh, if_neg (nI_pos (show x < 2 ^ 31 by omega)), if_neg (nI_ge hx (show mz_rl rs (16 * o + s) < 2 ^ 31 by omega)), if_neg one0, cg_20_0 hR ho hs h1 h2, sJ_of (cc_21 hR ho hs h1 h2) (ix_nI hx (show mz_rl rs (16 * o + s) < 2 ^ 31 by omega)), cl_nI (show x < 2 ^ 31 by omega), zo_s, zc_t, zl_0, zr_e, z_0, z_1, if_true]
    · show mz_f21 n m (mz_sj rs 43 (900 * (16 * o + s) + x) v) ad lv mk mm gi go gj o s 0 = _
      rw [mz_f21, if_pos ⟨ho, hs, rfl, h1, h2⟩]
      exact congrArg (fun f => some (Sum.inl (1, mz_rl rs (16 * o + s), Sum.inr (Sum.inl f)))) (updL_win (rs.2.2 43) (mz_rl rs (16 * o + s)) (fun k => 900 * (16 * o + s) + k) x hx v (fun k e => by simpa using e))
    · apply mz_hs <;> first | (exact fun _ _ _ _ => Or.inl rfl) | skip
      · intro i' j' k' hne
        refine Or.inl ?_
        by_cases hij : i' = o ∧ j' = s
        · obtain ⟨rfl, rfl⟩ := hij
          have hk : ¬ k' = 0 := fun e => hne ⟨rfl, rfl, rfl, e⟩
          unfold mz_f21
          rw [if_neg (fun z => hk z.2.2.1), if_neg (fun z => hk z.2.2.1)]
        · exact (keepS w (show s < 16 by omega) A i' j' k' hij).2.2.1
      · intro i' j' k' _
        refine Or.inl ?_
        by_cases hij : i' = o ∧ j' = s
        · obtain ⟨rfl, rfl⟩ := hij
          unfold mz_f24
          rw [if_neg (fun z => h2 z.2.2.2.1), if_neg (fun z => h2 z.2.2.2.1)]
        · exact (keepS w (show s < 16 by omega) A i' j' k' hij).2.2.2.2.2
  · rcases P with ⟨h4, q⟩ | ⟨h4, hj, q⟩ | ⟨h4, rfl, hx, -, rfl, rfl⟩
    · cases q
    · exact absurd q.symm i31
    · have hil := (il_le w ho hs h1 h2 hi0 h4).1
      have hh := cs_has hR (cc_23 hR ho hs h1 h2 hi0 h4) (cc_24 hR ho hs h1 h2 hi0 h4) (nI x)
      have A := aw_cell (rs := rs) (o := o) (s := s) (show 30 * i0 + x < 900 by omega) v
      refine ⟨_, ?_, hR.up (e := .inl (1, mz_il rs (30 * (16 * o + s) + i0), .inr (.inl (vp_updL (fun c => if c < mz_il rs (30 * (16 * o + s) + i0) then rs.2.2 43 (900 * (16 * o + s) + (30 * i0 + c)) else 0) x v)))) 24 o s i0 (Or.inl ?_) (cb_24 hR ho hs h1 h2 hi0 h4) ?_, rfl, 30 * i0 + x, by omega, rfl⟩
      · simp only [fn_X6_putCell, ci_19 hR ho hs, cs_rowAt2 hR w ho hs h1 h2 hi0, if_pos h4, cg_19_2 hR ho hs, if_pos h2, fn_X6_putCell_b20, if_neg smn, ci_23 hR ho hs h1 h2 hi0 h4, hh, if_neg (nI_pos (show x < 2 ^ 31 by omega)), if_neg (nI_ge hx (show mz_il rs (30 * (16 * o + s) + i0) < 2 ^ 31 by omega)), if_neg one0, cg_23_0 hR ho hs h1 h2 hi0 h4, sJ_of (cc_24 hR ho hs h1 h2 hi0 h4) (ix_nI hx (show mz_il rs (30 * (16 * o + s) + i0) < 2 ^ 31 by omega)), cl_nI (show x < 2 ^ 31 by omega), zo_s, zc_t, zl_0, zr_e, z_0, z_1, if_true]
      · show mz_f24 n m (mz_sj rs 43 (900 * (16 * o + s) + (30 * i0 + x)) v) ad lv mk mm gi go gj o s i0 = _
        rw [mz_f24, if_pos ⟨ho, hs, h1, h2, hi0, h4⟩]
        exact congrArg (fun f => some (Sum.inl (1, mz_il rs (30 * (16 * o + s) + i0), Sum.inr (Sum.inl f)))) (updL_win (rs.2.2 43) (mz_il rs (30 * (16 * o + s) + i0)) (fun k => 900 * (16 * o + s) + (30 * i0 + k)) x hx v (fun k e => by simpa using e))
      · apply mz_hs <;> first | (exact fun _ _ _ _ => Or.inl rfl) | skip
        · intro i' j' k' _
          refine Or.inl ?_
          by_cases hij : i' = o ∧ j' = s
          · obtain ⟨rfl, rfl⟩ := hij
            unfold mz_f21
            rw [if_neg (fun z => z.2.2.2.2 h2), if_neg (fun z => z.2.2.2.2 h2)]
          · exact (keepS w (show s < 16 by omega) A i' j' k' hij).2.2.1
        · intro i' j' k' hne
          refine Or.inl ?_
          by_cases hij : i' = o ∧ j' = s
          · obtain ⟨rfl, rfl⟩ := hij
            have hk : ¬ k' = i0 := fun e => hne ⟨rfl, rfl, rfl, e⟩
            unfold mz_f24
            by_cases hc : i' < m ∧ j' < mz_sl rs i' ∧ rs.2.1 39 (16 * i' + j') = 1 ∧ rs.2.1 37 (16 * i' + j') = 2 ∧ k' < mz_rl rs (16 * i' + j') ∧ rs.2.1 41 (30 * (16 * i' + j') + k') = 1
            · have hil2 := (il_le w ho hs h1 h2 hc.2.2.2.2.1 hc.2.2.2.2.2).1
              have hc' : i' < m ∧ j' < mz_sl (mz_sj rs 43 (900 * (16 * i' + j') + (30 * i0 + x)) v) i' ∧ (mz_sj rs 43 (900 * (16 * i' + j') + (30 * i0 + x)) v).2.1 39 (16 * i' + j') = 1 ∧ (mz_sj rs 43 (900 * (16 * i' + j') + (30 * i0 + x)) v).2.1 37 (16 * i' + j') = 2 ∧ k' < mz_rl (mz_sj rs 43 (900 * (16 * i' + j') + (30 * i0 + x)) v) (16 * i' + j') ∧ (mz_sj rs 43 (900 * (16 * i' + j') + (30 * i0 + x)) v).2.1 41 (30 * (16 * i' + j') + k') = 1 := hc
              rw [if_pos hc', if_pos hc]
              exact congrArg (fun f => some (Sum.inl (1, mz_il rs (30 * (16 * i' + j') + k'), Sum.inr (Sum.inl f)))) (updL_out (rs.2.2 43) (mz_il rs (30 * (16 * i' + j') + k')) (fun k => 900 * (16 * i' + j') + (30 * k' + k)) _ v (fun k hk2 => by omega))
            · refine (if_neg ?_).trans (if_neg hc).symm
              exact hc
          · exact (keepS w (show s < 16 by omega) A i' j' k' hij).2.2.2.2.2
end
theorem mz_In.cell {VB o0 l : Nat} {rs : mz_RS} {h h' : mz_H} {v : Int64} {n m : Nat} {ad : mz_T → Nat} {lv : Nat → Int32} {mk : Nat → Nat} {mm : Nat → Nat → Nat × Nat} {gi : Nat → Nat → Nat → Int32} {go : Nat → Nat → Option Nat} {gj : Nat → Nat → Int64} {o s x2 y : Nat} (hR : mz_Rp VB n m (mz_sj rs 43 x2 v) ad lv mk mm gi go gj h') (ho : o < m) (hsl : s < mz_sl rs o) (hy : y < 900) (hx : x2 = 900 * (16 * o + s) + y) (hv : mz_cv_ok m (rs.2.1 36 (16 * o + s)) v) (hs : h'.2 = h.2)
    (w : mz_wc n rs lv ∧ mz_wm n rs mk mm ∧ mz_wo n m rs ∧ mz_wt0 rs gi go ∧ mz_wl n rs ∧ mz_wq rs gj ∧ ad (1, 0, 0, 0) = o0 ∧ h.2 + 40 * (l + 1) + 1100 * (60 - m) ≤ VB) : mz_In VB o0 l (mz_sj rs 43 x2 v) h' := by
  obtain ⟨w1, w2, w3, w4, w5, w6, w7, w8⟩ := w
  refine ⟨n, m, ad, lv, mk, mm, gi, go, gj, hR, w1, w2, ?_, w4, w5, w6, w7, by omega⟩
  obtain ⟨a1, a2, a3, a4, a5, a6, a7⟩ := id w3
  refine ⟨a1, a2, a3, a4, a5, a6, fun o' s' i' b1 b2 b3 b4 b5 => ?_⟩
  have h16 := (mz_sl_le w3 ho).1
  have b2' : s' < mz_sl rs o' := b2
  have b5' : i' < mz_rl rs (16 * o' + s') := b5
  have h16' := (mz_sl_le w3 b1).1
  have h30 := (rl_le w3 b1 b2').1
  show mz_cv_ok m (rs.2.1 36 (16 * o' + s')) (vp_updL (rs.2.2 43) x2 v (900 * (16 * o' + s') + i'))
  by_cases e : 900 * (16 * o' + s') + i' = x2
  · rw [e, pk_uLs]
    have : 16 * o' + s' = 16 * o + s := by omega
    rw [this]
    exact hv
  · rw [pk_uLn e]
    exact a7 o' s' i' b1 b2 b3 b4 b5
theorem ok_failJ2 {VB o q l : Nat} {rs : mz_RS} {h : mz_H} {fx fm : mz_H → mz_Res Int64} (H : mz_In VB o (l + 1) rs h) (x : Int32) (hx : fx h = mz_call (fn_X11_zeroAfter h (some o) x) fun v h => mz_ret v h) (hm : ∀ sz, fm (mz_RH q sz rs) = mz_call (fn_X12_failsLong (mz_RH q sz rs) (some q) x) fun v h => mz_ret v h) : mz_Ok VB o q l rs fx fm h := by
  obtain ⟨n, m, ad, lv, mk, mm, gi, go, gj, hR, w⟩ := H
  obtain rfl : ad (1, 0, 0, 0) = o := w.2.2.2.2.2.2.1
  obtain ⟨h1, e1, R1, s1⟩ := cs_comeTo hR x
  refine ⟨0, h1, 0, 0, mz_si (mz_si rs 0 x) 1 (rs.1 1 + 1), ?_, ?_, mz_In.num (rs := rs) R1 rfl (fun k hk => ?_) s1 w, Nat.le_of_eq s1.symm, Nat.le_refl _, by omega, by omega⟩
  · rw [hx]; simp only [fn_X11_zeroAfter, ci_1 hR, e1, zc_t, zl_0, zr_e]
  · rw [hm]; simp only [fn_X12_failsLong, mz_RH_is, rs_fails, zc_t, zl_0, zr_e]
  · show (if k = 1 then _ else if k = 0 then x else rs.1 k) = rs.1 k
    rw [if_neg (by omega), if_neg (by omega)]
/-- the fault of a place is one of three -/
theorem mz_PC.F {rs : mz_RS} {o s : Nat} {i j F : Int32} {t : mz_T} {x x2 : Nat} (P : mz_PC rs o s i j F t x x2) : F = 0 ∨ F = 1 ∨ F = 3 := by
  rcases P with ⟨-, rfl⟩ | ⟨-, -, rfl⟩ | ⟨-, -, -, -, rfl, -⟩ | ⟨-, -, i0, -, -, ⟨-, rfl⟩ | ⟨-, -, rfl⟩ | ⟨-, -, -, rfl, -⟩⟩ <;> simp
theorem mz_PC.x2 {n m : Nat} {rs : mz_RS} (w : mz_wo n m rs) {o s : Nat} (ho : o < m) (hs : s < mz_sl rs o) {i j : Int32} {t : mz_T} {x x2 : Nat} (P : mz_PC rs o s i j 0 t x x2) : x2 < 864000 := by
  have h30 := (rl_le w ho hs).1
  have h16 := (mz_sl_le w ho).1
  have hm := w.1
  rcases P with ⟨-, q⟩ | ⟨-, -, q⟩ | ⟨-, -, -, hx, -, -, rfl⟩ | ⟨h1, h2, i0, -, hi0, ⟨-, q⟩ | ⟨-, -, q⟩ | ⟨h4, -, hx, -, -, rfl⟩⟩
  · cases q
  · exact absurd q.symm i31
  · omega
  · cases q
  · exact absurd q.symm i31
  · have := (il_le w ho hs h1 h2 hi0 h4).1
    omega
theorem neg_ge (F : Int32) (h : F = 1 ∨ F = 3) : ¬ (0 : Int32) ≤ -F ∧ - -F = F ∧ ¬ F = 0 := by
  rcases h with rfl | rfl <;> decide
theorem k_get {VB o q l : Nat} {rs : mz_RS} {h : mz_H} (H : mz_In VB o (l + 1) rs h) (x y i j : Int32) : mz_Ok VB o q l rs (fun h => fn_X11_get h (some o) x y i j) (fun h => fn_X12_get h (some q) x y i j) h := by
  refine ok_flt H (fun _ => rfl) (fun _ => rfl) (fun h1 H1 => ?_)
  clear H
  revert H1
  generalize mz_si rs 0 0 = rs
  clear h
  intro H
  generalize h1 = h at H ⊢
  obtain ⟨n, m, ad, lv, mk, mm, gi, go, gj, hR, w⟩ := id H
  obtain ⟨wc, wm, wo, wt, wl, wq, wa, wv⟩ := id w
  obtain rfl : ad (1, 0, 0, 0) = o := wa
  have hn40 := wc.1
  have hm60 := wo.1
  rcases mz_noS wo x y with hx | ⟨a, s, ha, hs, rfl, rfl⟩
  · exact mz_Ok.same H 0 (by simp only [ci_1 hR, cs_slotOf_no hR wo hx, zo_s, zc_t, zl_0, zr_e, z_0, z_1, if_true]) (by simp only [mz_RH_is, rs_isSlot_no q h.2 wo hx, zo_s, zc_t, zl_0, zr_e, z_0, z_1, if_true])
  obtain ⟨F, t, k, x2, P⟩ := mz_PC.ex wo ha hs i j
  rcases P.F with rfl | hF
  · have hx2 := P.x2 wo ha hs
    refine mz_Ok.same H (rs.2.2 43 x2) ?_ ?_
    · simp only [ci_1 hR, cs_slotOf hR wo ha hs, if_neg smn, ci_19 hR ha hs, cs_faultAt hR wo ha hs P, cs_cellAt hR wo ha hs P, zo_s, zc_t, zl_0, zr_e, z_0, z_1, if_true]
    · simp only [mz_RH_is, rs_isSlot q h.2 wo ha hs, if_neg one0, l16, rs_placeOf q h.2 wo ha hs P, nI_pos' (show x2 < 2 ^ 31 by omega), rr_43, ra_43, ix_nI (show x2 < 864000 by omega) (show 864000 < 2 ^ 31 by omega), cl_nI (show x2 < 2 ^ 31 by omega), zo_s, zc_t, zl_0, zr_e, z_0, z_1, if_true]
  · obtain ⟨n1, n2, n3⟩ := neg_ge F hF
    refine ok_failJ2 H F ?_ (fun sz => ?_)
    · simp only [ci_1 hR, cs_slotOf hR wo ha hs, if_neg smn, ci_19 hR ha hs, cs_faultAt hR wo ha hs P, if_neg n3, zc_t, zl_0]
    · simp only [mz_RH_is, rs_isSlot q sz wo ha hs, if_neg one0, l16, rs_placeOf q sz wo ha hs P, if_neg n3, if_neg n1, n2, zc_t, zl_0]
/-- a value that both sides agree on is put -/
theorem ok_put {VB q l : Nat} {rs : mz_RS} {h : mz_H} {n m : Nat} {ad : mz_T → Nat} {lv : Nat → Int32} {mk : Nat → Nat} {mm : Nat → Nat → Nat × Nat} {gi : Nat → Nat → Nat → Int32} {go : Nat → Nat → Option Nat} {gj : Nat → Nat → Int64} (hR : mz_Rp VB n m rs ad lv mk mm gi go gj h) (w : mz_wc n rs lv ∧ mz_wm n rs mk mm ∧ mz_wo n m rs ∧ mz_wt0 rs gi go ∧ mz_wl n rs ∧ mz_wq rs gj ∧ ad (1, 0, 0, 0) = ad (1, 0, 0, 0) ∧ h.2 + 40 * (l + 1) + 1100 * (60 - m) ≤ VB) {a s : Nat} (ha : a < m) (hs : s < mz_sl rs a) (i j : Int32) (v : Int64) (hv : mz_cv_ok m (rs.2.1 36 (16 * a + s)) v) :
    mz_Ok VB (ad (1, 0, 0, 0)) q l rs (fun h => mz_chk (mz_is h (some (ad (1, 0, 0, 0))) 10) <| mz_call (fn_X11_put h (some (ad (1, 0, 0, 0))) (some (ad (19, a, s, 0))) i j v) fun v2 h => mz_ret v2 h) (fun h => mz_chk (mz_is h (some q) 11) <| mz_call (fn_X12_placeOf h (some q) (nI (16 * a + s)) i j) fun v4 h => if 0 ≤ v4 then mz_op (mz_fR h (some q) 11 43) fun v5 => mz_op (mz_sJ h v5 v4 v) fun h => mz_ret 1 h else mz_chk (mz_is h (some q) 11) <| mz_call (fn_X12_fails h (some q) (-v4)) fun v6 h => mz_ret v6 h) h := by
  have wo := w.2.2.1
  obtain ⟨F, t, k, x2, P⟩ := mz_PC.ex wo ha hs i j
  have H : mz_In VB (ad (1, 0, 0, 0)) (l + 1) rs h := ⟨n, m, ad, lv, mk, mm, gi, go, gj, hR, w⟩
  rcases P.F with rfl | hF
  · have hx2 := P.x2 wo ha hs
    obtain ⟨h1, e1, R1, s1, y, hy, hxy⟩ := cs_putCell hR wo ha hs P v
    refine ⟨1, h1, 0, 0, mz_sj rs 43 x2 v, ?_, ?_, mz_In.cell R1 ha hs hy hxy hv s1 w, Nat.le_of_eq s1.symm, Nat.le_refl _, by omega, by omega⟩
    · simp only [ci_1 hR, fn_X11_put, ci_19 hR ha hs, cs_faultAt hR wo ha hs P, e1, zo_s, zc_t, zl_0, zr_e, z_0, z_1, if_true]
    · simp only [mz_RH_is, rs_placeOf q h1.2 wo ha hs P, nI_pos' (show x2 < 2 ^ 31 by omega), rr_43, rw_43, ix_nI (show x2 < 864000 by omega) (show 864000 < 2 ^ 31 by omega), cl_nI (show x2 < 2 ^ 31 by omega), zo_s, zc_t, zl_0, zr_e, z_0, z_1, if_true]
  · obtain ⟨n1, n2, n3⟩ := neg_ge F hF
    refine ok_fail H F ?_ (fun sz => ?_)
    · simp only [ci_1 hR, fn_X11_put, ci_19 hR ha hs, cs_faultAt hR wo ha hs P, if_neg n3, zc_t, zl_0]
      obtain ⟨h1, e1, R1, s1⟩ := cs_comeTo hR F
      simp only [e1, zl_0, zr_e]
    · simp only [mz_RH_is, rs_placeOf q sz wo ha hs P, if_neg n3, if_neg n1, n2, zc_t, zl_0]
theorem k_link {VB o q l : Nat} {rs : mz_RS} {h : mz_H} (H : mz_In VB o (l + 1) rs h) (x y i j p : Int32) : mz_Ok VB o q l rs (fun h => fn_X11_link h (some o) x y i j p) (fun h => fn_X12_link h (some q) x y i j p) h := by
  refine ok_flt H (fun _ => rfl) (fun _ => rfl) (fun h1 H1 => ?_)
  clear H
  revert H1
  generalize mz_si rs 0 0 = rs
  clear h
  intro H
  generalize h1 = h at H ⊢
  obtain ⟨n, m, ad, lv, mk, mm, gi, go, gj, hR, w⟩ := id H
  obtain ⟨wc, wm, wo, wt, wl, wq, wa, wv⟩ := id w
  obtain rfl : ad (1, 0, 0, 0) = o := wa
  have hn40 := wc.1
  have hm60 := wo.1
  rcases mz_noS wo x y with hx | ⟨a, s, ha, hs, rfl, rfl⟩
  · exact mz_Ok.same H (-1) (by simp only [ci_1 hR, cs_slotOf_no hR wo hx, zo_s, zc_t, zl_0, zr_e, z_0, z_1, if_true]) (by simp only [mz_RH_is, rs_isSlot_no q h.2 wo hx, zo_s, zc_t, zl_0, zr_e, z_0, z_1, if_true])
  have h16 := (mz_sl_le wo ha).1
  have key : (p = -9 ∨ ∃ b, b < m ∧ p = nI b) → mz_Ok VB (ad (1, 0, 0, 0)) q l rs (fun h => fn_X11_link_b36 h (some (ad (1, 0, 0, 0))) i j p (some (ad (19, a, s, 0)))) (fun h => fn_X12_link_b32 h (some q) (nI a) (nI s) i j p) h := by
    intro hp
    by_cases c8 : rs.2.1 36 (16 * a + s) = 8
    · refine mz_Ok.cong ?_ (fun sz => ?_) (ok_put hR w ha hs i j p.toInt64 ?_)
      · simp only [fn_X11_link_b36, cg_19_1 hR ha hs, c8, zo_s, if_true]
      · simp only [fn_X12_link_b32, l16, rr_36, ra_36, ix_nI (show 16 * a + s < 960 by omega) (show 960 < 2 ^ 31 by omega), cl_nI (show 16 * a + s < 2 ^ 31 by omega), c8, zo_s, if_true]
      · intro _
        rcases hp with rfl | ⟨b, hb, rfl⟩
        · exact Or.inl (by decide)
        · exact Or.inr ⟨b, hb, rfl⟩
    · exact mz_Ok.same H (-3) (by simp only [fn_X11_link_b36, cg_19_1 hR ha hs, if_neg c8, zo_s, zc_t, zl_0, zr_e, z_0, z_1, if_true]) (by simp only [fn_X12_link_b32, l16, rr_36, ra_36, ix_nI (show 16 * a + s < 960 by omega) (show 960 < 2 ^ 31 by omega), cl_nI (show 16 * a + s < 2 ^ 31 by omega), if_neg c8, zo_s, zc_t, zl_0, zr_e, z_0, z_1, if_true])
  by_cases c9 : p = -9
  · refine mz_Ok.cong ?_ (fun sz => ?_) (key (Or.inl c9))
    · simp only [ci_1 hR, cs_slotOf hR wo ha hs, if_neg smn, if_pos c9, zc_t, zl_0]
    · simp only [mz_RH_is, rs_isSlot q sz wo ha hs, if_neg one0, if_pos c9, zc_t, zl_0]
  · rcases mz_no p (show m < 2 ^ 31 by omega) with hp | ⟨b, hb, rfl⟩
    · exact mz_Ok.same H (-1) (by simp only [ci_1 hR, cs_slotOf hR wo ha hs, if_neg smn, if_neg c9, cs_thingOf_no hR hp, zo_s, zc_t, zl_0, zr_e, z_0, z_1, if_true]) (by simp only [mz_RH_is, rs_isSlot q h.2 wo ha hs, if_neg one0, if_neg c9, rs_isObject_no q h.2 wo.2.1 hp, zo_s, zc_t, zl_0, zr_e, z_0, z_1, if_true])
    · refine mz_Ok.cong ?_ (fun sz => ?_) (key (Or.inr ⟨b, hb, rfl⟩))
      · simp only [ci_1 hR, cs_slotOf hR wo ha hs, if_neg smn, if_neg c9, cs_thingOf hR wo.1 hb, zc_t, zl_0]
      · simp only [mz_RH_is, rs_isSlot q sz wo ha hs, if_neg one0, if_neg c9, rs_isObject q sz wo.2.1 wo.1 hb, zc_t, zl_0]

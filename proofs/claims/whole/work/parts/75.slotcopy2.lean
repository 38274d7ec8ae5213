/-! a slot is copied; the slots of a thing are -/
section
variable {VB : Nat} {n m : Nat} {rs : mz_RS} {ad : mz_T → Nat} {lv : Nat → Int32} {mk : Nat → Nat} {mm : Nat → Nat → Nat × Nat} {gi : Nat → Nat → Nat → Int32} {go : Nat → Nat → Option Nat} {gj : Nat → Nat → Int64} {hb : mz_H}
theorem cs_slotCopy (hR : mz_Rp VB n m rs ad lv mk mm gi go gj hb) (w : mz_wo n m rs) {o s : Nat} (ho : o < m) (hs : s < mz_sl rs o) {h0 : mz_H} (hx : mz_xt hb h0) : ∃ (h' : mz_H) (p : Nat → Nat) (kk nn : Nat), fn_X6_init_ (mz_nw h0 (.inr (5, [.int 0, .int 0, .int 0, .int 0, .null, .null]))) (some h0.2) (some (ad (19, o, s, 0))) = some ((), h', kk, nn) ∧ sr_R rs (16 * o + s) h0.2 p h'.2 h' ∧ h'.2 ≤ h0.2 + 62 ∧ kk ≤ 61 ∧ nn ≤ 960 ∧ ∀ a, a < h0.2 → h'.1 a = h0.1 a := by
  have h30 := (rl_le w ho hs).1
  have lR : mz_rl rs (16 * o + s) < 2 ^ 31 := by omega
  have b19 := cb_19 hR ho hs
  have hx1 := hx.1
  have c19 : h0.1 (ad (19, o, s, 0)) = _ := (hx.2 _ b19).trans (cc_19 hR ho hs)
  have ne : ad (19, o, s, 0) ≠ h0.2 := by omega
  have t0 := (nw_ne h0 (.inr (5, [.int 0, .int 0, .int 0, .int 0, .null, .null])) ne).trans c19
  obtain ⟨h1, k1, s1, d1, o1⟩ := pF_ex (k := 0) (v := .int (rs.2.1 35 (16 * o + s))) (nw_at h0 (.inr (5, [.int 0, .int 0, .int 0, .int 0, .null, .null]))) (lt_rfl rfl)
  have t1 := (o1 _ ne).trans t0
  obtain ⟨h2, k2, s2, d2, o2⟩ := pF_ex (k := 1) (v := .int (rs.2.1 36 (16 * o + s))) d1 (lt_rfl rfl)
  have t2 := (o2 _ ne).trans t1
  obtain ⟨h3, k3, s3, d3, o3⟩ := pF_ex (k := 2) (v := .int (rs.2.1 37 (16 * o + s))) d2 (lt_rfl rfl)
  have t3 := (o3 _ ne).trans t2
  obtain ⟨h4, k4, s4, d4, o4⟩ := pF_ex (k := 3) (v := .int (rs.2.1 38 (16 * o + s))) d3 (lt_rfl rfl)
  have t4 := (o4 _ ne).trans t3
  have z1 : h1.2 = h0.2 + 1 := s1
  have z4 : h4.2 = h0.2 + 1 := by omega
  have old : ∀ a, a < h0.2 → h4.1 a = h0.1 a := fun a ha => by rw [o4 _ (by omega), o3 _ (by omega), o2 _ (by omega), o1 _ (by omega), nw_ne _ _ (by omega)]
  have x4 : mz_xt hb h4 := ⟨by omega, fun a ha => (old a (by omega)).trans (hx.2 a ha)⟩
  have d4' : h4.1 h0.2 = some (.inr (5, [.int (rs.2.1 35 (16 * o + s)), .int (rs.2.1 36 (16 * o + s)), .int (rs.2.1 37 (16 * o + s)), .int (rs.2.1 38 (16 * o + s)), .null, .null])) := d4
  have pre : fn_X6_init_ (mz_nw h0 (.inr (5, [.int 0, .int 0, .int 0, .int 0, .null, .null]))) (some h0.2) (some (ad (19, o, s, 0))) = mz_op (mz_fR h4 (some (ad (19, o, s, 0))) 5 4) fun v5 => if v5 = none then fn_X6_init__b58 h4 (some h0.2) (some (ad (19, o, s, 0))) else mz_oN h4 4 1 [.null] fun v6 h => mz_op (mz_fR h (some (ad (19, o, s, 0))) 5 4) fun v7 => mz_chk (mz_is h v6 4) <| mz_call (fn_X5_init_ h v6 v7) fun _ h => mz_op (mz_pF h (some h0.2) 5 4 (va_rf v6)) fun h => fn_X6_init__b58 h (some h0.2) (some (ad (19, o, s, 0))) := by
    have f0 : mz_fI (mz_nw h0 (.inr (5, [.int 0, .int 0, .int 0, .int 0, .null, .null]))) (some (ad (19, o, s, 0))) 5 0 = some (rs.2.1 35 (16 * o + s)) := fI_of t0 rfl
    have f1 : mz_fI h1 (some (ad (19, o, s, 0))) 5 1 = some (rs.2.1 36 (16 * o + s)) := fI_of t1 rfl
    have f2 : mz_fI h2 (some (ad (19, o, s, 0))) 5 2 = some (rs.2.1 37 (16 * o + s)) := fI_of t2 rfl
    have f3 : mz_fI h3 (some (ad (19, o, s, 0))) 5 3 = some (rs.2.1 38 (16 * o + s)) := fI_of t3 rfl
    simp only [fn_X6_init_, Option.isSome, f0, k1, f1, k2, f2, k3, f3, k4, zo_s, zc_t]
  rcases (w.2.2.2.1 o s ho hs).2.2.2.1 with h9 | h9
  · have n9 : ¬ rs.2.1 39 (16 * o + s) = 1 := by rw [h9]; decide
    have g4 : mz_fR h4 (some (ad (19, o, s, 0))) 5 4 = some none := fR_of (r := none) t4 (by rw [if_neg (fun z => n9 z.1)]; rfl)
    have g5 : mz_fR h4 (some (ad (19, o, s, 0))) 5 5 = some none := fR_of (r := none) t4 (by rw [if_neg (c := rs.2.1 39 (16 * o + s) = 1 ∧ rs.2.1 37 (16 * o + s) = 2) (fun z => n9 z.1)]; rfl)
    refine ⟨h4, fun _ => 0, 0, 0, ?_, ⟨by omega, ?_, fun z => absurd z n9, fun z => absurd z n9⟩, by omega, by omega, by omega, old⟩
    · rw [pre]
      simp only [g4, g5, fn_X6_init__b58, zo_s, zc_t, zl_0, zr_e, z_0, z_1, if_true]
    · rw [if_neg (fun z => n9 z.1), if_neg (fun z => n9 z.1)]
      exact d4'
  by_cases h2 : rs.2.1 37 (16 * o + s) = 2
  · have n4 : ¬ (rs.2.1 39 (16 * o + s) = 1 ∧ rs.2.1 37 (16 * o + s) ≠ 2) := fun z => z.2 h2
    have p5 : rs.2.1 39 (16 * o + s) = 1 ∧ rs.2.1 37 (16 * o + s) = 2 := ⟨h9, h2⟩
    have g4 : mz_fR h4 (some (ad (19, o, s, 0))) 5 4 = some none := fR_of (r := none) t4 (by rw [if_neg n4]; rfl)
    have g5 : mz_fR h4 (some (ad (19, o, s, 0))) 5 5 = some (some (ad (22, o, s, 0))) := fR_of (r := some (ad (22, o, s, 0))) t4 (by rw [if_pos p5]; rfl)
    have b22 := cb_22 hR ho hs h9 h2
    have c22 : h4.1 (ad (22, o, s, 0)) = _ := (x4.2 _ b22).trans (cc_22 hR ho hs h9 h2)
    have l22 := len_of c22
    obtain ⟨h5, k5, s5, d5, e5, o5⟩ := aF_ex (k := 5) (t := 14) (N := mz_rl rs (16 * o + s)) (x := .inr (.inr (.inr (.inr (fun _ => none))))) d4' (by omega) (lt_rfl rfl)
    obtain ⟨h', p, kk, nn, k6, r1, r2, r3, r4, r5, r6, r7, r8⟩ := cs_inCopy hR w ho hs h9 h2 (b := h0.2) hx1 (fs := [.int (rs.2.1 35 (16 * o + s)), .int (rs.2.1 36 (16 * o + s)), .int (rs.2.1 37 (16 * o + s)), .int (rs.2.1 38 (16 * o + s)), .null, .ref (h0.2 + 1)]) rfl (mz_rl rs (16 * o + s)) 0 1001 h5 (fun _ => 0) (by omega) (by omega) ⟨by omega, fun a ha => by rw [o5 _ (by omega) (by omega), x4.2 a ha]⟩ (by omega) (by rw [d5, z4]; rfl) (by
      rw [← z4, e5]
      refine congrArg (fun f => some (Sum.inl (14, mz_rl rs (16 * o + s), Sum.inr (Sum.inr (Sum.inr (Sum.inr f)))))) (funext fun c => ?_)
      exact (if_neg fun z => absurd z.1 (Nat.not_lt_zero c)).symm) (fun c hc => absurd hc (Nat.not_lt_zero c)) (fun c c' _ hc => absurd hc (Nat.not_lt_zero c'))
    have k6' : fn_X6_init__b79 1001 h5 (some h0.2) (some (ad (19, o, s, 0))) 0 = _ := k6
    refine ⟨h', p, kk + 1, nn + mz_rl rs (16 * o + s), ?_, ⟨by omega, ?_, fun _ z => absurd h2 z, fun _ _ => ⟨by omega, r6, r7, r8⟩⟩, by omega, by omega, by omega, fun a ha => ?_⟩
    · rw [pre]
      simp only [g4, g5, fn_X6_init__b58, if_neg smn, l22, zn_a h4 14 (show mz_rl rs (16 * o + s) ≤ 1000000 by omega), k5, k6', za_s, zo_s, if_true]
    · rw [if_neg n4, if_pos p5, r5 _ (by omega) (by omega), d5, z4]
      rfl
    · rw [r5 _ (by omega) (by omega), o5 _ (by omega) (by omega), old a ha]
  · have p4 : rs.2.1 39 (16 * o + s) = 1 ∧ rs.2.1 37 (16 * o + s) ≠ 2 := ⟨h9, h2⟩
    have n5 : ¬ (rs.2.1 39 (16 * o + s) = 1 ∧ rs.2.1 37 (16 * o + s) = 2) := fun z => h2 z.2
    have g4 : mz_fR h4 (some (ad (19, o, s, 0))) 5 4 = some (some (ad (20, o, s, 0))) := fR_of (r := some (ad (20, o, s, 0))) t4 (by rw [if_pos p4]; rfl)
    have b20 := cb_20 hR ho hs h9 h2
    have b21 := cb_21 hR ho hs h9 h2
    have c20 : h4.1 (ad (20, o, s, 0)) = _ := (x4.2 _ b20).trans (cc_20 hR ho hs h9 h2)
    have c21 : h4.1 (ad (21, o, s, 0)) = _ := (x4.2 _ b21).trans (cc_21 hR ho hs h9 h2)
    have g4' : mz_fR (mz_nw h4 (.inr (4, [.null]))) (some (ad (19, o, s, 0))) 5 4 = some (some (ad (20, o, s, 0))) := fR_of (r := some (ad (20, o, s, 0))) ((nw_ne _ _ (by omega)).trans t4) (by rw [if_pos p4]; rfl)
    obtain ⟨h5, k5, s5, e5, f5, o5⟩ := cs_rowCopy h4 c20 c21 (by omega) (by omega)
    obtain ⟨h6, k6, s6, e6, o6⟩ := pF_ex (k := 4) (v := va_rf (some h4.2)) ((o5 _ (by omega)).trans d4') (lt_rfl rfl)
    have t6 : h6.1 (ad (19, o, s, 0)) = _ := (o6 _ ne).trans ((o5 _ (by omega)).trans t4)
    have g5 : mz_fR h6 (some (ad (19, o, s, 0))) 5 5 = some none := fR_of (r := none) t6 (by rw [if_neg n5]; rfl)
    refine ⟨h6, fun _ => 0, 2, mz_rl rs (16 * o + s) + 1, ?_, ⟨by omega, ?_, fun _ _ => ⟨by omega, ?_, ?_⟩, fun _ z => absurd z h2⟩, by omega, by omega, by omega, fun a ha => ?_⟩
    · rw [pre]
      simp only [g4, if_neg smn, zn_o, g4', is_of (nw_at h4 (.inr (4, [.null]))), k5, k6, fn_X6_init__b58, g5, zl_s, za_s, zo_s, zc_t, zl_0, zr_e, z_0, z_1, if_true]
      simp only [Nat.zero_add, Nat.reduceAdd]
    · rw [if_pos p4, if_neg n5, e6, z4]
      rfl
    · rw [o6 _ (by omega), ← z4, e5, z4]
    · rw [o6 _ (by omega), show h0.2 + 2 = h4.2 + 1 by omega, f5]
    · rw [o6 _ (by omega), o5 _ (by omega), old a ha]
/-- the slots of a thing under construction: bs s where slot s is, bs S the end -/
def sr_S (rs : mz_RS) (o S : Nat) (bs : Nat → Nat) (ps : Nat → Nat → Nat) (h : mz_H) : Prop := ∀ s, s < S → sr_R rs (16 * o + s) (bs s) (ps s) (bs (s + 1)) h
theorem cs_slotsCopy (hR : mz_Rp VB n m rs ad lv mk mm gi go gj hb) (w : mz_wo n m rs) {o a1 : Nat} (ho : o < m) (ha1 : hb.2 ≤ a1) : ∀ (d i f : Nat) (h : mz_H) (bs : Nat → Nat) (ps : Nat → Nat → Nat), i + d = mz_sl rs o → d < f → mz_xt hb h → a1 + 2 ≤ bs 0 → bs i = h.2 → (∀ s, s < i → bs s ≤ bs (s + 1)) → sr_S rs o i bs ps h → h.1 a1 = some (.inr (7, [.int (rs.2.1 33 o), .ref (a1 + 1)])) → h.1 (a1 + 1) = some (.inl (15, mz_sl rs o, .inr (.inr (.inr (.inr (fun c => if c < i then some (bs c) else none)))))) → ∃ (h' : mz_H) (bs' : Nat → Nat) (ps' : Nat → Nat → Nat) (kk nn : Nat), fn_X8_init__b26 f h (some a1) (some (ad (17, o, 0, 0))) (nI i) = some ((), h', kk, nn) ∧ kk ≤ 62 * d ∧ nn ≤ 966 * d ∧ h'.2 ≤ h.2 + 62 * d ∧ h.2 ≤ h'.2 ∧ (∀ a, a < h.2 → a ≠ a1 + 1 → h'.1 a = h.1 a) ∧ a1 + 2 ≤ bs' 0 ∧ bs' (mz_sl rs o) = h'.2 ∧ (∀ s, s < mz_sl rs o → bs' s ≤ bs' (s + 1)) ∧ sr_S rs o (mz_sl rs o) bs' ps' h' ∧ h'.1 (a1 + 1) = some (.inl (15, mz_sl rs o, .inr (.inr (.inr (.inr (fun c => if c < mz_sl rs o then some (bs' c) else none)))))) := by
  have h16 := (mz_sl_le w ho).1
  have lS : mz_sl rs o < 2 ^ 31 := by omega
  have b17 := cb_17 hR ho
  have b18 := cb_18 hR ho
  have mono : ∀ (bs : Nat → Nat) (i : Nat), (∀ s, s < i → bs s ≤ bs (s + 1)) → ∀ s, s ≤ i → bs 0 ≤ bs s ∧ bs s ≤ bs i := fun bs i hm => by
    intro s hs
    constructor
    · induction s with
      | zero => exact Nat.le_refl _
      | succ s ih => exact Nat.le_trans (ih (by omega)) (hm s (by omega))
    · obtain ⟨d, rfl⟩ : ∃ d, i = s + d := ⟨i - s, by omega⟩
      clear hs
      induction d with
      | zero => exact Nat.le_refl _
      | succ d ih => exact Nat.le_trans (ih fun s hs => hm s (by omega)) (hm (s + d) (by omega))
  intro d
  induction d with
  | zero =>
    intro i f h bs ps hi hf hx hb0 hbi hbm hS c1 c2
    obtain ⟨f, rfl⟩ : ∃ g', f = g' + 1 := ⟨f - 1, by omega⟩
    have e : i = mz_sl rs o := by omega
    subst e
    have g1 : mz_fR h (some a1) 7 1 = some (some (a1 + 1)) := fR_of (r := some (a1 + 1)) c1 rfl
    exact ⟨h, bs, ps, 0, 0, by simp only [fn_X8_init__b26, g1, len_of c2, if_pos (Int32.le_refl _), zo_s, zc_t, zl_0, zr_e, z_0, z_1, if_true], by omega, by omega, by omega, by omega, fun _ _ _ => rfl, hb0, hbi, hbm, hS, c2⟩
  | succ d ih =>
    intro i f h bs ps hi hf hx hb0 hbi hbm hS c1 c2
    obtain ⟨f, rfl⟩ : ∃ g', f = g' + 1 := ⟨f - 1, by omega⟩
    have hiS : i < mz_sl rs o := by omega
    have ng := nI_ge hiS lS
    have hx1 := hx.1
    have hm0 := mono bs i hbm
    have b0i := (hm0 0 (by omega)).2
    have g1 : mz_fR h (some a1) 7 1 = some (some (a1 + 1)) := fR_of (r := some (a1 + 1)) c1 rfl
    have c17 : h.1 (ad (17, o, 0, 0)) = _ := (hx.2 _ b17).trans (cc_17 hR ho)
    have c18 : h.1 (ad (18, o, 0, 0)) = _ := (hx.2 _ b18).trans (cc_18 hR ho)
    have g17 : mz_fR (mz_nw h (.inr (5, [.int 0, .int 0, .int 0, .int 0, .null, .null]))) (some (ad (17, o, 0, 0))) 7 1 = some (some (ad (18, o, 0, 0))) := fR_of (r := some (ad (18, o, 0, 0))) ((nw_ne _ _ (by omega)).trans c17) rfl
    have g18 : mz_aR (mz_nw h (.inr (5, [.int 0, .int 0, .int 0, .int 0, .null, .null]))) (some (ad (18, o, 0, 0))) 15 (nI i) = some (some (ad (19, o, i, 0))) := by
      have c18' : (mz_nw h (.inr (5, [.int 0, .int 0, .int 0, .int 0, .null, .null]))).1 (ad (18, o, 0, 0)) = _ := (nw_ne _ _ (by omega)).trans c18
      simp only [mz_aR, mz_ar, c18', if_true, ix_nI hiS lS, cl_nI (show i < 2 ^ 31 by omega), if_pos hiS]
    obtain ⟨h1, p1, kk1, nn1, k1, R1, z1, z2, z3, o1⟩ := cs_slotCopy hR w ho hiS hx
    have r0 := R1.1
    have c2' : h1.1 (a1 + 1) = _ := (o1 _ (by omega)).trans c2
    obtain ⟨h2, k2, s2, d2, o2⟩ := sR_ex (j := i) (v := some h.2) c2' hiS lS (by simp only [is_of R1.2.1, Bool.or_true])
    have ef : (va_up (fun c => if c < i then some (bs c) else none) i (some h.2)) = (fun c => if c < i + 1 then some (va_up (va_up bs i h.2) (i + 1) h2.2 c) else none) := funext fun c => by
      by_cases hc : c = i
      · subst hc
        rw [va_up_self, if_pos (Nat.lt_succ_self _), va_up_ne _ _ (by omega), va_up_self]
      · rw [va_up_ne _ _ hc]
        by_cases hci : c < i
        · rw [if_pos hci, if_pos (by omega), va_up_ne _ _ (by omega), va_up_ne _ _ hc]
        · rw [if_neg hci, if_neg (by omega)]
    rw [ef] at d2
    have bb : ∀ s, s ≤ i → va_up (va_up bs i h.2) (i + 1) h2.2 s = bs s := fun s hs => by
      rw [va_up_ne _ _ (by omega)]
      by_cases hsi : s = i
      · subst hsi
        rw [va_up_self, hbi]
      · rw [va_up_ne _ _ hsi]
    have be : va_up (va_up bs i h.2) (i + 1) h2.2 (i + 1) = h2.2 := va_up_self _ _ _
    obtain ⟨h', bs', ps', kk, nn, k3, r1, r2, r3, r4, r5, r6⟩ := ih (i + 1) f h2 (va_up (va_up bs i h.2) (i + 1) h2.2) (va_up ps i p1) (by omega) (by omega) ⟨by omega, fun a ha => by rw [o2 _ (by omega), o1 _ (by omega), hx.2 a ha]⟩ (by rw [bb 0 (by omega)]; exact hb0) be (fun s hs => by
      rcases (show s = i ∨ s < i by omega) with rfl | q
      · rw [be, bb s (by omega), hbi]
        omega
      · rw [bb s (by omega), bb (s + 1) (by omega)]
        exact hbm s q) (fun s hs => by
      rcases (show s = i ∨ s < i by omega) with rfl | q
      · rw [be, bb s (by omega), hbi, va_up_self, s2]
        exact R1.ext fun a h1 h2 => o2 a (by omega)
      · rw [bb s (by omega), bb (s + 1) (by omega), va_up_ne _ _ (by omega)]
        have m1 := hm0 s (by omega)
        have m2 := hm0 (s + 1) (by omega)
        refine (hS s q).ext fun a h1 h2 => ?_
        rw [o2 a (by omega), o1 a (by omega)]) ((o2 _ (by omega)).trans ((o1 _ (by omega)).trans c1)) d2
    rw [show nI (i + 1) = nI i + 1 from (nI_add i 1).symm] at k3
    refine ⟨h', bs', ps', kk + kk1 + 1, nn + nn1 + 6, ?_, by omega, by omega, by omega, by omega, fun a ha hne => ?_, r6⟩
    · simp only [fn_X8_init__b26, g1, len_of c2, if_neg ng, zn_o, g17, g18, is_of (nw_at h (.inr (5, [.int 0, .int 0, .int 0, .int 0, .null, .null]))), k1, k2, k3, zl_s, za_s, zo_s, zc_t]
    · rw [r5 a (by omega) hne, o2 _ hne, o1 _ ha]
end

/-! twin: the call -/
section
variable {VB : Nat} {n m : Nat} {rs : mz_RS} {ad : mz_T → Nat} {lv : Nat → Int32} {mk : Nat → Nat} {mm : Nat → Nat → Nat × Nat} {gi : Nat → Nat → Nat → Int32} {go : Nat → Nat → Option Nat} {gj : Nat → Nat → Int64} {h : mz_H}
theorem wo_more {X : Nat → Nat → Int32} {J : Nat → Int64} (w : mz_wo n m rs) (hm : m < 60) (x33 : ∀ o, o < m → X 33 o = rs.2.1 33 o) (x34 : ∀ o, o < m → X 34 o = rs.2.1 34 o) (sm : ∀ o s, o < m → s < mz_sl rs o → mz_sm rs (mz_tw rs (nI (m + 1)) X J) (16 * o + s) (16 * o + s)) (c33 : ∃ c, c < n ∧ X 33 m = nI c) (c34 : ∃ k, k ≤ 16 ∧ X 34 m = nI k)
    (s4 : ∀ s, s < mz_sl (mz_tw rs (nI (m + 1)) X J) m → (∃ k, k < 31 ∧ X 35 (16 * m + s) = nI k) ∧ (∃ l, l < 9 ∧ X 36 (16 * m + s) = nI l) ∧ (∃ d, d < 3 ∧ X 37 (16 * m + s) = nI d) ∧ (X 39 (16 * m + s) = 0 ∨ X 39 (16 * m + s) = 1) ∧ (∃ r, r ≤ 30 ∧ X 40 (16 * m + s) = nI r) ∧ (X 37 (16 * m + s) = 0 → X 39 (16 * m + s) = 1 ∧ X 40 (16 * m + s) = 1))
    (s5 : ∀ s i, s < mz_sl (mz_tw rs (nI (m + 1)) X J) m → i < 30 → X 37 (16 * m + s) = 2 → X 39 (16 * m + s) = 1 → i < mz_rl (mz_tw rs (nI (m + 1)) X J) (16 * m + s) → (X 41 (30 * (16 * m + s) + i) = 0 ∨ X 41 (30 * (16 * m + s) + i) = 1) ∧ (X 41 (30 * (16 * m + s) + i) = 1 → ∃ r, r ≤ 30 ∧ X 42 (30 * (16 * m + s) + i) = nI r))
    (s6 : ∀ s t, s < mz_sl (mz_tw rs (nI (m + 1)) X J) m → t < mz_sl (mz_tw rs (nI (m + 1)) X J) m → X 35 (16 * m + s) = X 35 (16 * m + t) → s = t)
    (s7 : ∀ s i, s < mz_sl (mz_tw rs (nI (m + 1)) X J) m → X 37 (16 * m + s) ≠ 2 → X 39 (16 * m + s) = 1 → i < mz_rl (mz_tw rs (nI (m + 1)) X J) (16 * m + s) → mz_cv_ok (m + 1) (X 36 (16 * m + s)) (J (900 * (16 * m + s) + i))) : mz_wo n (m + 1) (mz_tw rs (nI (m + 1)) X J) := by
  obtain ⟨a1, a2, a3, a4, a5, a6, a7⟩ := id w
  have es : ∀ o, o < m → mz_sl (mz_tw rs (nI (m + 1)) X J) o = mz_sl rs o := fun o ho => by
    show (X 34 o).toNatClampNeg = (rs.2.1 34 o).toNatClampNeg
    rw [x34 o ho]
  have er : ∀ o s, o < m → s < mz_sl rs o → mz_rl (mz_tw rs (nI (m + 1)) X J) (16 * o + s) = mz_rl rs (16 * o + s) := fun o s ho hs => by
    obtain ⟨-, -, -, -, -, b40, -⟩ := sm o s ho hs
    unfold mz_rl
    rw [b40]
  refine ⟨by omega, rfl, fun o ho => ?_, fun o s ho hs => ?_, fun o s i ho hs hi h2 h9 hl => ?_, fun o s t ho hs ht e => ?_, fun o s i ho hs h2 h9 hl => ?_⟩
  · rcases (show o = m ∨ o < m by omega) with rfl | q
    · exact ⟨c33, c34⟩
    · obtain ⟨b1, b2⟩ := a3 o q
      refine ⟨?_, ?_⟩
      · rw [show (mz_tw rs (nI (m + 1)) X J).2.1 33 o = rs.2.1 33 o from x33 o q]
        exact b1
      · rw [show (mz_tw rs (nI (m + 1)) X J).2.1 34 o = rs.2.1 34 o from x34 o q]
        exact b2
  · rcases (show o = m ∨ o < m by omega) with rfl | q
    · exact s4 s hs
    · rw [es o q] at hs
      obtain ⟨b35, b36, b37, b38, b39, b40, -⟩ := sm o s q hs
      rw [b35, b36, b37, b39, b40]
      exact a4 o s q hs
  · rcases (show o = m ∨ o < m by omega) with rfl | q
    · exact s5 s i hs hi h2 h9 hl
    · rw [es o q] at hs
      rw [er o s q hs] at hl
      obtain ⟨b35, b36, b37, b38, b39, b40, b41, -⟩ := sm o s q hs
      rw [b37] at h2
      rw [b39] at h9
      obtain ⟨c1, c2⟩ := b41 i hi h9 h2 hl
      rw [c1, c2]
      exact a5 o s i q hs hi h2 h9 hl
  · rcases (show o = m ∨ o < m by omega) with rfl | q
    · exact s6 s t hs ht e
    · rw [es o q] at hs ht
      rw [(sm o s q hs).1, (sm o t q ht).1] at e
      exact a6 o s t q hs ht e
  · rcases (show o = m ∨ o < m by omega) with rfl | q
    · exact s7 s i hs h2 h9 hl
    · rw [es o q] at hs
      rw [er o s q hs] at hl
      have h30 := (rl_le w q hs).1
      obtain ⟨b35, b36, b37, b38, b39, b40, b41, b43⟩ := sm o s q hs
      rw [b37] at h2
      rw [b39] at h9
      rw [b36, b43 i (by omega)]
      intro e8
      rcases a7 o s i q hs h2 h9 hl e8 with z | ⟨x, hx, z⟩
      · exact Or.inl z
      · exact Or.inr ⟨x, by omega, z⟩
theorem cs_thingCopy (hR : mz_Rp VB n m rs ad lv mk mm gi go gj h) (w : mz_wo n m rs) {o : Nat} (ho : o < m) : ∃ (h' : mz_H) (bs : Nat → Nat) (ps : Nat → Nat → Nat) (kk nn : Nat), fn_X8_init_ (mz_nw h (.inr (7, [.int 0, .null]))) (some h.2) (some (ad (17, o, 0, 0))) = some ((), h', kk, nn) ∧ kk ≤ 993 ∧ nn ≤ 15472 ∧ h'.2 ≤ h.2 + 994 ∧ h.2 + 2 ≤ h'.2 ∧ (∀ a, a < h.2 → h'.1 a = h.1 a) ∧ h.2 + 2 ≤ bs 0 ∧ bs (mz_sl rs o) = h'.2 ∧ (∀ s, s < mz_sl rs o → bs s ≤ bs (s + 1)) ∧ sr_S rs o (mz_sl rs o) bs ps h' ∧ h'.1 h.2 = some (.inr (7, [.int (rs.2.1 33 o), .ref (h.2 + 1)])) ∧ h'.1 (h.2 + 1) = some (.inl (15, mz_sl rs o, .inr (.inr (.inr (.inr (fun c => if c < mz_sl rs o then some (bs c) else none)))))) := by
  have h16 := (mz_sl_le w ho).1
  have b17 := cb_17 hR ho
  have b18 := cb_18 hR ho
  have t17 := (nw_ne h (.inr (7, [.int 0, .null])) (show ad (17, o, 0, 0) ≠ h.2 by omega)).trans (cc_17 hR ho)
  obtain ⟨h1, k1, s1, d1, o1⟩ := pF_ex (k := 0) (v := .int (rs.2.1 33 o)) (nw_at h (.inr (7, [.int 0, .null]))) (lt_rfl rfl)
  have z1 : h1.2 = h.2 + 1 := s1
  have old1 : ∀ a, a < h.2 → h1.1 a = h.1 a := fun a ha => by rw [o1 _ (by omega), nw_ne _ _ (by omega)]
  have c17 : h1.1 (ad (17, o, 0, 0)) = _ := (old1 _ b17).trans (cc_17 hR ho)
  have c18 : h1.1 (ad (18, o, 0, 0)) = _ := (old1 _ b18).trans (cc_18 hR ho)
  obtain ⟨h2, k2, s2, d2, e2, o2⟩ := aF_ex (k := 1) (t := 15) (N := mz_sl rs o) (x := .inr (.inr (.inr (.inr (fun _ => none))))) d1 (by omega) (lt_rfl rfl)
  have old2 : ∀ a, a < h.2 → h2.1 a = h.1 a := fun a ha => by rw [o2 _ (by omega) (by omega), old1 a ha]
  have d2' : h2.1 h.2 = some (.inr (7, [.int (rs.2.1 33 o), .ref (h.2 + 1)])) := by
    rw [d2, z1]
    rfl
  obtain ⟨h3, bs, ps, kk, nn, k3, r1, r2, r3, r4, r5, r6, r7, r8, r9, r10⟩ := cs_slotsCopy hR w (a1 := h.2) ho (Nat.le_refl _) (mz_sl rs o) 0 1001 h2 (fun _ => h.2 + 2) (fun _ _ => 0) (by omega) (by omega) ⟨by omega, old2⟩ (Nat.le_refl _) (by show h.2 + 2 = h2.2; omega) (fun s hs => absurd hs (Nat.not_lt_zero s)) (fun s hs => absurd hs (Nat.not_lt_zero s)) d2' (by
    rw [← z1, e2]
    refine congrArg (fun f => some (Sum.inl (15, mz_sl rs o, Sum.inr (Sum.inr (Sum.inr (Sum.inr f)))))) (funext fun c => ?_)
    exact (if_neg (Nat.not_lt_zero c)).symm)
  have k3' : fn_X8_init__b26 1001 h2 (some h.2) (some (ad (17, o, 0, 0))) 0 = _ := k3
  refine ⟨h3, bs, ps, kk + 1, nn + mz_sl rs o, ?_, by omega, by omega, by omega, by omega, fun a ha => by rw [r5 a (by omega) (by omega), old2 a ha], r6, r7, r8, r9, by rw [r5 _ (by omega) (by omega)]; exact d2', r10⟩
  have f0 : mz_fI (mz_nw h (.inr (7, [.int 0, .null]))) (some (ad (17, o, 0, 0))) 7 0 = some (rs.2.1 33 o) := fI_of t17 rfl
  have f1 : mz_fR h1 (some (ad (17, o, 0, 0))) 7 1 = some (some (ad (18, o, 0, 0))) := fR_of (r := some (ad (18, o, 0, 0))) c17 rfl
  simp only [fn_X8_init_, Option.isSome, f0, k1, f1, len_of c18, zn_a h1 15 (show mz_sl rs o ≤ 1000000 by omega), k2, k3', za_s, zo_s, zc_t]
theorem cs_addThing (hR : mz_Rp VB n m rs ad lv mk mm gi go gj h) (hm : m < 60) {h1 : mz_H} {a : Nat} {fs : List Value} (hx : ∀ x, x < h.2 → h1.1 x = h.1 x) (ca : h1.1 a = some (.inr (7, fs))) (ha : h.2 ≤ a) : ∃ h', fn_X11_addThing h1 (some (ad (1, 0, 0, 0))) (some a) = some (nI m, h', 0, 0) ∧ h'.2 = h1.2 ∧ (∀ x, x ≠ ad (1, 0, 0, 0) → x ≠ ad (16, 0, 0, 0) → h'.1 x = h1.1 x) ∧ h'.1 (ad (16, 0, 0, 0)) = some (.inl (17, 60, .inr (.inr (.inr (.inr (va_up (fun c => if c < m then some (ad (17, c, 0, 0)) else none) m (some a))))))) ∧ h'.1 (ad (1, 0, 0, 0)) = some (.inr (10, [.ref (ad (2, 0, 0, 0)), .ref (ad (12, 0, 0, 0)), .ref (ad (12, 1, 0, 0)), .ref (ad (16, 0, 0, 0)), .int (nI (m + 1)), .ref (ad (25, 0, 0, 0)), .ref (ad (25, 1, 0, 0)), .ref (ad (27, 0, 0, 0)), .int (rs.1 0), .int (rs.1 1)])) := by
  have n1 : ad (1, 0, 0, 0) ≠ ad (16, 0, 0, 0) := fun e => by have := hR.2.1 _ _ e; simp at this
  have c1 : h1.1 (ad (1, 0, 0, 0)) = _ := (hx _ (cb_1 hR)).trans (cc_1 hR)
  have c16 : h1.1 (ad (16, 0, 0, 0)) = _ := (hx _ (cb_16 hR)).trans (cc_16 hR)
  obtain ⟨h2, k2, s2, d2, o2⟩ := sR_ex (j := m) (v := some a) c16 hm (by omega) (by simp only [is_of ca, Bool.or_true])
  have c1' : h2.1 (ad (1, 0, 0, 0)) = _ := (o2 _ n1).trans c1
  obtain ⟨h3, k3, s3, d3, o3⟩ := pF_ex (k := 4) (v := .int (nI m + 1)) c1' (lt_rfl rfl)
  have em : nI m + 1 = nI (m + 1) := nI_add m 1
  have g1 : mz_fI h1 (some (ad (1, 0, 0, 0))) 10 4 = some (nI m) := fI_of c1 rfl
  have g2 : mz_fR h1 (some (ad (1, 0, 0, 0))) 10 3 = some (some (ad (16, 0, 0, 0))) := fR_of (r := some (ad (16, 0, 0, 0))) c1 rfl
  have g3 : mz_fI h2 (some (ad (1, 0, 0, 0))) 10 4 = some (nI m) := fI_of c1' rfl
  have g4 : mz_fI h3 (some (ad (1, 0, 0, 0))) 10 4 = some (nI m + 1) := fI_of d3 rfl
  have lt : nI m < 60 := nI_lt (b := 60) hm (by omega)
  have g5 : nI m + 1 - 1 = nI m := Int32.add_sub_cancel _ _
  refine ⟨h3, ?_, by omega, fun x h1 h2 => by rw [o3 _ h1, o2 _ h2], by rw [o3 _ n1.symm, d2], by rw [d3, em]; rfl⟩
  simp only [fn_X11_addThing, g1, if_pos lt, g2, k2, g3, k3, g4, g5, zo_s, zc_t, zl_0, zr_e, z_0, z_1, if_true]
end
theorem k_twin {VB o q l : Nat} {rs : mz_RS} {h : mz_H} (H : mz_In VB o (l + 1) rs h) (x : Int32) : mz_Ok VB o q l rs (fun h => fn_X11_twin h (some o) x) (fun h => fn_X12_twin h (some q) x) h := by
  obtain ⟨n, m, ad, lv, mk, mm, gi, go, gj, hR, w⟩ := id H
  obtain ⟨wc, wm, wo, wt, wl, wq, wa, wv⟩ := id w
  obtain rfl : ad (1, 0, 0, 0) = o := wa
  have hn40 := wc.1
  have hm60 := wo.1
  rcases mz_no x (show m < 2 ^ 31 by omega) with hx | ⟨o, ho, rfl⟩
  · exact mz_Ok.same H (-1) (by simp only [fn_X11_twin, ci_1 hR, cs_thingOf_no hR hx, zo_s, zc_t, zl_0, zr_e, z_0, z_1, if_true]) (by simp only [fn_X12_twin, mz_RH_is, rs_isObject_no q h.2 wo.2.1 hx, zo_s, zc_t, zl_0, zr_e, z_0, z_1, if_true])
  have RO := fun sz => rs_isObject (rs := rs) q sz wo.2.1 wo.1 ho
  by_cases h60 : m = 60
  · have e1 : ¬ nI m < 60 := by rw [h60]; decide
    have e2 : nI m = 60 := by rw [h60]; rfl
    exact mz_Ok.same H (-4) (by simp only [fn_X11_twin, ci_1 hR, cs_thingOf hR wo.1 ho, if_neg smn, cg_1_4 hR, if_neg e1, zo_s, zc_t, zl_0, zr_e, z_0, z_1, if_true]) (by simp only [fn_X12_twin, mz_RH_is, RO, if_neg one0, rg_32, wo.2.1, if_pos e2, zo_s, zc_t, zl_0, zr_e, z_0, z_1, if_true])
  have hm : m < 60 := by omega
  have e1 : nI m < 60 := nI_lt (b := 60) hm (by omega)
  have e2 : ¬ nI m = 60 := fun z => h60 ((nI_eq (b := 60) (by omega) (by omega)).mp z)
  obtain ⟨h16, e34⟩ := mz_sl_le wo ho
  obtain ⟨h1, bs, ps, kk, nn, k1, r1, r2, r3, r4, r5, r6, r7, r8, r9, r10, r11⟩ := cs_thingCopy hR wo ho
  obtain ⟨h2, k2, s2, o2, d16, d1⟩ := cs_addThing hR hm r5 r10 (Nat.le_refl _)
  have is1 : mz_is h1 (some (ad (1, 0, 0, 0))) 10 = true := is_of ((r5 _ (cb_1 hR)).trans (cc_1 hR))
  -- the reference
  obtain ⟨X, J, k3, C3, B3, x33, x34⟩ := rs_twS q h2.2 (rs := rs) ho hm h16 (nI m) rfl (mz_sl rs o) 0 1001 (mz_xX (mz_xX rs.2.1 33 m (rs.2.1 33 o)) 34 m (rs.2.1 34 o)) (rs.2.2 43) (by omega) (by omega) (by
    rw [xX_at, xX_ne _ _ _ (by omega), pk_un (by omega)]
    exact e34) (fun t ht => absurd ht (Nat.not_lt_zero t)) ⟨fun p hp => ⟨rfl, rfl, rfl, rfl, rfl, rfl⟩, fun p hp => ⟨rfl, rfl⟩, fun p hp => rfl⟩
  have k3' : fn_X12_twin_b53 1001 (mz_RH q h2.2 (mz_tw rs (nI m) (mz_xX (mz_xX rs.2.1 33 m (rs.2.1 33 o)) 34 m (rs.2.1 34 o)) (rs.2.2 43))) (some q) (nI o) (nI m) 0 = _ := k3
  have y33 : X 33 = upd (rs.2.1 33) m (rs.2.1 33 o) := by rw [x33]; rfl
  have y34 : X 34 = upd (rs.2.1 34) m (rs.2.1 34 o) := by rw [x34]; rfl
  have z33 : ∀ i, i < m → X 33 i = rs.2.1 33 i := fun i hi => by rw [y33, pk_un (by omega)]
  have z34 : ∀ i, i < m → X 34 i = rs.2.1 34 i := fun i hi => by rw [y34, pk_un (by omega)]
  have zm : X 34 m = nI (mz_sl rs o) := by rw [y34, pk_us, e34]
  have esl : mz_sl (mz_tw rs (nI (m + 1)) X J) m = mz_sl rs o := by
    show (X 34 m).toNatClampNeg = _
    rw [zm, cl_nI (by omega)]
  have sm : ∀ i s, i < m → s < mz_sl rs i → mz_sm rs (mz_tw rs (nI (m + 1)) X J) (16 * i + s) (16 * i + s) := fun i s hi hs => by
    have hi16 := (mz_sl_le wo hi).1
    obtain ⟨c1, c2, c3, c4, c5, c6⟩ := B3.1 (16 * i + s) (by omega)
    exact ⟨c1, c2, c3, c4, c5, c6, fun k hk _ _ _ => B3.2.1 _ (by omega), fun k hk => B3.2.2 _ (by omega)⟩
  have sc : ∀ s, s < mz_sl rs o → mz_sm rs (mz_tw rs (nI (m + 1)) X J) (16 * o + s) (16 * m + s) := fun s hs => by
    obtain ⟨c1, c2, c3, c4, c5, c6, c7, c8⟩ := C3 s hs
    have b9 := (wo.2.2.2.1 o s ho hs).2.2.2.1
    refine ⟨c1, c2, c3, c4, c5.trans ?_, c6, fun k hk h9 h2 hl => ⟨(c7 k hk).1.trans ?_, (c7 k hk).2⟩, c8⟩
    · rcases b9 with z | z <;> rw [z] <;> decide
    · rcases (wo.2.2.2.2.1 o s k ho hs hk h2 h9 hl).1 with z | z <;> rw [z] <;> decide
  have wo' : mz_wo n (m + 1) (mz_tw rs (nI (m + 1)) X J) := by
    refine wo_more wo hm z33 z34 sm ?_ ⟨_, h16, zm⟩ (fun s hs => ?_) (fun s i hs hi h2 h9 hl => ?_) (fun s t hs ht e => ?_) (fun s i hs h2 h9 hl => ?_)
    · rw [y33, pk_us]
      exact (wo.2.2.1 o ho).1
    · rw [esl] at hs
      obtain ⟨c1, c2, c3, c4, c5, c6, -⟩ := sc s hs
      have e35 : X 35 (16 * m + s) = rs.2.1 35 (16 * o + s) := c1
      have e36 : X 36 (16 * m + s) = rs.2.1 36 (16 * o + s) := c2
      have e37 : X 37 (16 * m + s) = rs.2.1 37 (16 * o + s) := c3
      have e39 : X 39 (16 * m + s) = rs.2.1 39 (16 * o + s) := c5
      have e40 : X 40 (16 * m + s) = rs.2.1 40 (16 * o + s) := c6
      rw [e35, e36, e37, e39, e40]
      exact wo.2.2.2.1 o s ho hs
    · rw [esl] at hs
      obtain ⟨c1, c2, c3, c4, c5, c6, c7, -⟩ := sc s hs
      have e37 : X 37 (16 * m + s) = rs.2.1 37 (16 * o + s) := c3
      have e39 : X 39 (16 * m + s) = rs.2.1 39 (16 * o + s) := c5
      rw [e37] at h2
      rw [e39] at h9
      have el : i < mz_rl rs (16 * o + s) := by
        unfold mz_rl at hl ⊢
        rw [c6] at hl
        exact hl
      obtain ⟨d1, d2⟩ := c7 i hi h9 h2 el
      have e41 : X 41 (30 * (16 * m + s) + i) = rs.2.1 41 (30 * (16 * o + s) + i) := d1
      have e42 : X 42 (30 * (16 * m + s) + i) = rs.2.1 42 (30 * (16 * o + s) + i) := d2
      rw [e41, e42]
      exact wo.2.2.2.2.1 o s i ho hs hi h2 h9 el
    · rw [esl] at hs ht
      have e1 : X 35 (16 * m + s) = rs.2.1 35 (16 * o + s) := (sc s hs).1
      have e2 : X 35 (16 * m + t) = rs.2.1 35 (16 * o + t) := (sc t ht).1
      rw [e1, e2] at e
      exact wo.2.2.2.2.2.1 o s t ho hs ht e
    · rw [esl] at hs
      obtain ⟨c1, c2, c3, c4, c5, c6, c7, c8⟩ := sc s hs
      have e36 : X 36 (16 * m + s) = rs.2.1 36 (16 * o + s) := c2
      have e37 : X 37 (16 * m + s) = rs.2.1 37 (16 * o + s) := c3
      have e39 : X 39 (16 * m + s) = rs.2.1 39 (16 * o + s) := c5
      rw [e37] at h2
      rw [e39] at h9
      have el : i < mz_rl rs (16 * o + s) := by
        unfold mz_rl at hl ⊢
        rw [c6] at hl
        exact hl
      have h30 := (rl_le wo ho hs).1
      have e43 : J (900 * (16 * m + s) + i) = rs.2.2 43 (900 * (16 * o + s) + i) := c8 i (by omega)
      rw [e36, e43]
      intro e8
      rcases wo.2.2.2.2.2.2 o s i ho hs h2 h9 el e8 with z | ⟨y, hy, z⟩
      · exact Or.inl z
      · exact Or.inr ⟨y, by omega, z⟩
  have hbS : bs (mz_sl rs o) ≤ h2.2 := by omega
  have mo := bs_mono r8
  have R2 := hR.thing wo (S := mz_sl rs o) (X := X) (J := J) (h' := h2) (bs := bs) (ps := ps) (by omega) r6 hbS (by omega) r8 h16 z33 z34 zm sm (fun s hs => by
    refine ((r9 s hs).ext fun a h1 h2 => o2 a ?_ ?_).cong wo ho hs (sc s hs)
    · have := cb_1 hR
      have := mo s 0 (by omega)
      rw [Nat.zero_add] at this
      omega
    · have := cb_16 hR
      have := mo s 0 (by omega)
      rw [Nat.zero_add] at this
      omega) (by
    have := cb_1 hR
    have := cb_16 hR
    rw [o2 _ (by omega) (by omega), r10, y33, pk_us]) (by
    have := cb_1 hR
    have := cb_16 hR
    rw [o2 _ (by omega) (by omega), r11]) d16 d1 (fun a ha n1 n2 => by rw [o2 a n1 n2, r5 a ha])
  have c0 : (rs.1 32).toNatClampNeg = m := by rw [wo.2.1, cl_nI (by omega)]
  have c1 : ((mz_tw rs (nI (m + 1)) X J).1 32).toNatClampNeg = m + 1 := cl_nI (by omega)
  refine ⟨nI m, h2, kk + 1, nn + 2, mz_tw rs (nI (m + 1)) X J, ?_, ?_, ⟨n, m + 1, _, lv, mk, mm, gi, go, gj, R2, wc, wm, wo', wt, wl, wq, rfl, by omega⟩, by omega, by omega, by omega, by omega⟩
  · simp only [fn_X11_twin, ci_1 hR, cs_thingOf hR wo.1 ho, if_neg smn, cg_1_4 hR, if_pos e1, zn_o, is_of (nw_at h (.inr (7, [.int 0, .null]))), k1, is1, k2, zl_s, za_s, zo_s, zc_t, zl_0, zr_e]
    simp only [Nat.zero_add]
  · have id1 : mz_sa rs 33 m (rs.2.1 33 o) = mz_tw rs (nI m) (mz_xX rs.2.1 33 m (rs.2.1 33 o)) (rs.2.2 43) := by
      have := tw_id rs
      rw [wo.2.1] at this
      conv => lhs; rw [this]
      rw [tw_33]
      rfl
    have y34' : (mz_tw rs (nI m) (mz_xX rs.2.1 33 m (rs.2.1 33 o)) (rs.2.2 43)).2.1 34 o = rs.2.1 34 o := rfl
    simp only [fn_X12_twin, mz_RH_is, RO, if_neg one0, rg_32, wo.2.1, if_neg e2, rr_33, ra_33, rr_34, ra_34, rw_33, rw_34, ix_nI (show o < 60 by omega) (show 60 < 2 ^ 31 by omega), cl_nI (show o < 2 ^ 31 by omega), ix_nI (show m < 60 by omega) (show 60 < 2 ^ 31 by omega), cl_nI (show m < 2 ^ 31 by omega), id1, y34', tw_34, k3', zo_s, zc_t, zl_0, if_true]

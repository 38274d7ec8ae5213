/-! member -/
def mz_may (s g : Nat) (w : Int32) : Prop := ¬ (s = 0 ∧ g = 2 ∧ (w &&& 2) = 0) ∧ ¬ (s = 2 ∧ g ≠ 3)
theorem cs_mayHave {h : mz_H} {a s g : Nat} (e : mz_fI h (some a) 8 0 = some (nI g)) (hs : s < 3) (hg : g < 6) (w : Int32) : ∃ r, fn_X9_mayHave h (some a) (nI s) w = some (r, h, 0, 0) ∧ al_P (mz_may s g w) r := by
  have q0 : nI s = 0 ↔ s = 0 := nI_eq (b := 0) (by omega) (by omega)
  have q2 : nI s = 2 ↔ s = 2 := nI_eq (b := 2) (by omega) (by omega)
  have g2 : nI g = 2 ↔ g = 2 := nI_eq (b := 2) (by omega) (by omega)
  have g3 : nI g = 3 ↔ g = 3 := nI_eq (b := 3) (by omega) (by omega)
  by_cases w2 : (w &&& 2) = 0
  · simp only [fn_X9_mayHave, fn_X9_mayHave_b24, fn_X9_mayHave_b37, q0, q2, e, g2, g3, if_pos w2, zo_s, zc_t, zl_0, zr_e, z_0, z_1, if_true]
    unfold mz_may
    repeat' split
    all_goals first | exact ⟨1, rfl, al_P.yes ⟨by omega, by omega⟩⟩ | exact ⟨0, rfl, al_P.no (fun z => by omega)⟩ | exact ⟨0, rfl, al_P.no (fun z => z.1 ⟨by omega, by omega, w2⟩)⟩ | exact ⟨1, rfl, al_P.yes ⟨fun z => by omega, fun z => by omega⟩⟩
  · simp only [fn_X9_mayHave, fn_X9_mayHave_b24, fn_X9_mayHave_b37, q0, q2, e, g2, g3, if_neg w2, zo_s, zc_t, zl_0, zr_e, z_0, z_1, if_true]
    unfold mz_may
    repeat' split
    all_goals first | exact ⟨1, rfl, al_P.yes ⟨fun z => w2 z.2.2, by omega⟩⟩ | exact ⟨0, rfl, al_P.no (fun z => by omega)⟩ | exact ⟨0, rfl, al_P.no (fun z => z.2 ⟨by omega, by omega⟩)⟩ | exact ⟨1, rfl, al_P.yes ⟨fun z => w2 z.2.2, fun z => by omega⟩⟩
def mz_lk (l b : Nat) : Prop := l ≤ 8 ∨ l - 9 < b
section
variable {VB : Nat} {n m : Nat} {rs : mz_RS} {ad : mz_T → Nat} {lv : Nat → Int32} {mk : Nat → Nat} {mm : Nat → Nat → Nat × Nat} {gi : Nat → Nat → Nat → Int32} {go : Nat → Nat → Option Nat} {gj : Nat → Nat → Int64} {h : mz_H}
theorem cs_laneMeant (hR : mz_Rp VB n m rs ad lv mk mm gi go gj h) {c l b : Nat} (hc : c < n) (hl : l ≤ 10) (hb : b ≤ 2) (e7 : rs.2.1 7 c = nI b) : fn_X9_laneMeant h (some (ad (6, c, 0, 0))) (nI l) = some (if l ≤ 8 then nI l else if l - 9 < b then rs.2.1 8 (2 * c + (l - 9)) else -9, h, 0, 0) := by
  have q9 : 9 ≤ nI l ↔ 9 ≤ l := nI_leI (a := 9) (by omega) (by omega)
  by_cases h8 : l ≤ 8
  · have n9 : ¬ 9 ≤ nI l := fun z => by have := q9.mp z; omega
    simp only [fn_X9_laneMeant, if_neg n9, if_pos h8, zo_s, zc_t, zl_0, zr_e, z_0, z_1, if_true]
  · have n9 : 9 ≤ nI l := q9.mpr (by omega)
    have e9 : nI l - 9 = nI (l - 9) := by
      rcases (show l = 9 ∨ l = 10 by omega) with rfl | rfl <;> decide
    by_cases hv : l - 9 < b
    · simp only [fn_X9_laneMeant, if_pos n9, if_neg h8, if_pos hv, e9, cg_6_6 hR hc, e7, if_neg (nI_ge hv (show b < 2 ^ 31 by omega)), cg_6_5 hR hc, ca_8 hR hc, ix_nI (show l - 9 < 2 by omega) (show 2 < 2 ^ 31 by omega), cl_nI (show l - 9 < 2 ^ 31 by omega), show l - 9 < 2 from by omega, zo_s, zc_t, zl_0, zr_e, z_0, z_1, if_true]
    · simp only [fn_X9_laneMeant, if_pos n9, if_neg h8, if_neg hv, e9, cg_6_6 hR hc, e7, if_pos (nI_le (show b ≤ l - 9 by omega) (show l - 9 < 2 ^ 31 by omega)), zo_s, zc_t, zl_0, zr_e, z_0, z_1, if_true]
theorem cs_hasMember (hR : mz_Rp VB n m rs ad lv mk mm gi go gj h) (wm : mz_wm n rs mk mm) {c s k : Nat} (hc : c < n) (hs : s < 3) (hk : k < 31) : ∀ (d i f : Nat), i + d = mk c → d < f → ∃ r, fn_X9_hasMember_b2 f h (some (ad (6, c, 0, 0))) (nI s) (nI k) (nI i) = some (r, h, 0, 0) ∧ al_P (∃ j, i ≤ j ∧ j < mk c ∧ mm c j = (s, k)) r := by
  have h12 := (wm.1 c hc).1
  intro d
  induction d with
  | zero =>
    intro i f hi hf
    obtain ⟨f, rfl⟩ : ∃ g', f = g' + 1 := ⟨f - 1, by omega⟩
    refine ⟨0, ?_, al_P.no fun ⟨j, h1, h2, _⟩ => by omega⟩
    simp only [fn_X9_hasMember_b2, cg_6_8 hR hc, if_pos (nI_le (show mk c ≤ i by omega) (by omega)), zo_s, zc_t, zl_0, zr_e, z_0, z_1, if_true]
  | succ d ih =>
    intro i f hi hf
    obtain ⟨f, rfl⟩ : ∃ g', f = g' + 1 := ⟨f - 1, by omega⟩
    have hik : i < mk c := by omega
    obtain ⟨m1, m2⟩ := wm.2.1 c hc i hik
    have ng := nI_ge hik (show mk c < 2 ^ 31 by omega)
    have qs : nI (mm c i).1 = nI s ↔ (mm c i).1 = s := nI_eq (by omega) (by omega)
    have qk : nI (mm c i).2 = nI k ↔ (mm c i).2 = k := nI_eq (by omega) (by omega)
    by_cases hm : mm c i = (s, k)
    · refine ⟨1, ?_, al_P.yes ⟨i, Nat.le_refl i, hik, hm⟩⟩
      have e1 : nI (mm c i).1 = nI s := qs.mpr (by rw [hm])
      have e2 : nI (mm c i).2 = nI k := qk.mpr (by rw [hm])
      simp only [fn_X9_hasMember_b2, cg_6_8 hR hc, if_neg ng, cg_6_7 hR hc, ca_9 hR hc, ix_nI (show i < 12 by omega) (show 12 < 2 ^ 31 by omega), cl_nI (show i < 2 ^ 31 by omega), if_pos hik, cg_11_0 hR hc hik, cg_11_1 hR hc hik, if_pos e1, if_pos e2, zo_s, zc_t, zl_0, zr_e, z_0, z_1, if_true]
    · obtain ⟨r, I, p⟩ := ih (i + 1) f (by omega) (by omega)
      rw [show nI (i + 1) = nI i + 1 from (nI_add i 1).symm] at I
      refine ⟨r, ?_, p.iff ⟨fun ⟨j, h1, h2, h3⟩ => ⟨j, by omega, h2, h3⟩, fun ⟨j, h1, h2, h3⟩ => ⟨j, ?_, h2, h3⟩⟩⟩
      · by_cases e1 : nI (mm c i).1 = nI s
        · have e2 : ¬ nI (mm c i).2 = nI k := fun z => hm (Prod.ext (qs.mp e1) (qk.mp z))
          simp only [fn_X9_hasMember_b2, cg_6_8 hR hc, if_neg ng, cg_6_7 hR hc, ca_9 hR hc, ix_nI (show i < 12 by omega) (show 12 < 2 ^ 31 by omega), cl_nI (show i < 2 ^ 31 by omega), if_pos hik, cg_11_0 hR hc hik, cg_11_1 hR hc hik, if_pos e1, if_neg e2, fn_X9_hasMember_b38, I, zo_s, if_true]
        · simp only [fn_X9_hasMember_b2, cg_6_8 hR hc, if_neg ng, cg_6_7 hR hc, ca_9 hR hc, ix_nI (show i < 12 by omega) (show 12 < 2 ^ 31 by omega), cl_nI (show i < 2 ^ 31 by omega), if_pos hik, cg_11_0 hR hc hik, if_neg e1, fn_X9_hasMember_b38, I, zo_s, if_true]
      · rcases (show j = i ∨ i + 1 ≤ j by omega) with rfl | q
        · exact absurd h3 hm
        · exact q
def mz_km (rs : mz_RS) (c p K : Nat) (l d w : Int32) : mz_RS := mz_sa (mz_sa (mz_sa (mz_sa (mz_sa rs 10 p 1) 11 p l) 12 p d) 13 p w) 9 c (nI (K + 1))
def mz_mm (mm : Nat → Nat → Nat × Nat) (c K : Nat) (v : Nat × Nat) : Nat → Nat → Nat × Nat := fun c' i => if c' = c ∧ i = K then v else mm c' i
theorem cw_member (hR : mz_Rp VB n m rs ad lv mk mm gi go gj h) (wm : mz_wm n rs mk mm) {c s k l : Nat} (hc : c < n) (hs : s < 3) (hk : k < 31) (hl : l ≤ 10) (hK : mk c < 12) (hno : ¬ ∃ i, i < mk c ∧ mm c i = (s, k)) (d w : Int32) (hv : h.2 + 1 ≤ VB) : ∃ h', (mz_oN h 2 5 [.int 0, .int 0, .int 0, .int 0, .int 0] fun v10 h => mz_chk (mz_is h v10 2) <| mz_call (fn_X2_init h v10 (nI s) (nI k) (if l ≤ 8 then nI l else rs.2.1 8 (2 * c + (l - 9))) d w) fun _ h => mz_op (mz_sR h (some (ad (9, c, 0, 0))) 12 (nI (mk c)) v10) fun h => mz_op (mz_fI h (some (ad (6, c, 0, 0))) 8 8) fun v11 => mz_op (mz_pF h (some (ad (6, c, 0, 0))) 8 8 (Value.int (v11 + 1))) fun h => mz_op (mz_fI h (some (ad (6, c, 0, 0))) 8 8) fun v12 => mz_ret (v12 - 1) h) = some (nI (mk c), h', 1, 5) ∧ mz_Rp VB n m (mz_km rs c ((3 * c + s) * 31 + k) (mk c) (nI l) d w) (mz_ap ad (11, c, mk c, 0) h.2) lv (va_up mk c (mk c + 1)) (mz_mm mm c (mk c) (s, k)) gi go gj h' ∧ h'.2 = h.2 + 1 := by
  have hnw := nw_at h (.inr (2, [.int 0, .int 0, .int 0, .int 0, .int 0]))
  obtain ⟨h1, k1, s1, c1, o1⟩ := pF_ex (k := 0) (v := .int (nI s)) hnw (lt_rfl rfl)
  obtain ⟨h2, k2, s2, c2, o2⟩ := pF_ex (k := 1) (v := .int (nI k)) c1 (lt_rfl rfl)
  obtain ⟨h3, k3, s3, c3, o3⟩ := pF_ex (k := 2) (v := .int (if l ≤ 8 then nI l else rs.2.1 8 (2 * c + (l - 9)))) c2 (lt_rfl rfl)
  obtain ⟨h4, k4, s4, c4, o4⟩ := pF_ex (k := 3) (v := .int d) c3 (lt_rfl rfl)
  obtain ⟨h5, k5, s5, c5, o5⟩ := pF_ex (k := 4) (v := .int w) c4 (lt_rfl rfl)
  have z1 : h1.2 = h.2 + 1 := s1
  have old : ∀ a, a < h.2 → h5.1 a = h.1 a := fun a ha => by rw [o5 _ (by omega), o4 _ (by omega), o3 _ (by omega), o2 _ (by omega), o1 _ (by omega), nw_ne _ _ (by omega)]
  have b6 := cb_6 hR hc
  have b9 := cb_9 hR hc
  have n69 : ad (6, c, 0, 0) ≠ ad (9, c, 0, 0) := fun e => by have := hR.2.1 _ _ e; simp at this
  have t9 : h5.1 (ad (9, c, 0, 0)) = _ := (old _ b9).trans (cc_9 hR hc)
  obtain ⟨h6, k6, s6, d9, o6⟩ := sR_ex (j := mk c) (v := some h.2) t9 hK (by omega) (by simp only [is_of c5, Bool.or_true])
  have t6 : h6.1 (ad (6, c, 0, 0)) = _ := (o6 _ n69).trans ((old _ b6).trans (cc_6 hR hc))
  obtain ⟨h7, k7, s7, d6, o7⟩ := pF_ex (k := 8) (v := .int (nI (mk c) + 1)) t6 (lt_rfl rfl)
  have en : nI (mk c) + 1 = nI (mk c + 1) := nI_add _ 1
  refine ⟨h7, ?_, ?_, by omega⟩
  · have g1 : mz_fI h6 (some (ad (6, c, 0, 0))) 8 8 = some (nI (mk c)) := fI_of t6 rfl
    have g2 : mz_fI h7 (some (ad (6, c, 0, 0))) 8 8 = some (nI (mk c) + 1) := fI_of d6 rfl
    have g3 : nI (mk c) + 1 - 1 = nI (mk c) := Int32.add_sub_cancel _ _
    simp only [zn_o, is_of hnw, fn_X2_init, Option.isSome, k1, k2, k3, k4, k5, k6, g1, k7, g2, g3, za_s, zo_s, zc_t, zl_0, zr_e, z_0, z_1, if_true]
  have x10 : ∀ x, x ≠ (3 * c + s) * 31 + k → (mz_km rs c ((3 * c + s) * 31 + k) (mk c) (nI l) d w).2.1 11 x = rs.2.1 11 x ∧ (mz_km rs c ((3 * c + s) * 31 + k) (mk c) (nI l) d w).2.1 12 x = rs.2.1 12 x ∧ (mz_km rs c ((3 * c + s) * 31 + k) (mk c) (nI l) d w).2.1 13 x = rs.2.1 13 x := fun x hx => ⟨pk_un hx, pk_un hx, pk_un hx⟩
  refine hR.bulk (fun t => t = (11, c, mk c, 0)) (fun t => t = (6, c, 0, 0) ∨ t = (9, c, 0, 0)) (by omega) (by omega) (fun t ht => ap_ne _ _ ht) (fun t ht => ?_) (fun t t' q1 q2 e => q1.trans q2.symm) (fun a ha hC => ?_) (fun f' i j k' e hN' he => ?_) (fun f' i j k' e hC _ he => ?_) ?_
  · subst ht
    rw [ap_at]
    omega
  · rw [o7 _ (hC _ (Or.inl rfl)), o6 _ (hC _ (Or.inr rfl)), old _ ha]
  · cases hN'
    have he' : mz_f11 n m (mz_km rs c ((3 * c + s) * 31 + k) (mk c) (nI l) d w) (mz_ap ad (11, c, mk c, 0) h.2) lv (va_up mk c (mk c + 1)) (mz_mm mm c (mk c) (s, k)) gi go gj c (mk c) 0 = some e := he
    have em : mz_mm mm c (mk c) (s, k) c (mk c) = (s, k) := if_pos ⟨rfl, rfl⟩
    rw [mz_f11, if_pos ⟨hc, by rw [va_up_self]; omega, rfl⟩, em] at he'
    cases he'
    rw [ap_at, o7 _ (by omega), o6 _ (by omega), c5]
    have e11 : (mz_km rs c ((3 * c + s) * 31 + k) (mk c) (nI l) d w).2.1 11 ((3 * c + s) * 31 + k) = nI l := pk_us
    have e12 : (mz_km rs c ((3 * c + s) * 31 + k) (mk c) (nI l) d w).2.1 12 ((3 * c + s) * 31 + k) = d := pk_us
    have e13 : (mz_km rs c ((3 * c + s) * 31 + k) (mk c) (nI l) d w).2.1 13 ((3 * c + s) * 31 + k) = w := pk_us
    have el : mz_lane (mz_km rs c ((3 * c + s) * 31 + k) (mk c) (nI l) d w) c ((3 * c + s) * 31 + k) = (if l ≤ 8 then nI l else rs.2.1 8 (2 * c + (l - 9))) := by
      unfold mz_lane
      rw [e11]
      have q8 : 8 < nI l ↔ 8 < l := nI_ltI (a := 8) (by omega) (by omega)
      by_cases h8 : l ≤ 8
      · rw [if_pos h8, if_neg (fun z => by have := q8.mp z; omega)]
      · have e9 : nI l - 9 = nI (l - 9) := by
          rcases (show l = 9 ∨ l = 10 by omega) with rfl | rfl <;> decide
        rw [if_neg h8, if_pos (q8.mpr (by omega)), e9, cl_nI (by omega)]
        rfl
    show some (Sum.inr (2, [Value.int (nI s), Value.int (nI k), Value.int _, Value.int d, Value.int w])) = some (Sum.inr (2, [Value.int (nI s), Value.int (nI k), Value.int (mz_lane (mz_km rs c ((3 * c + s) * 31 + k) (mk c) (nI l) d w) c ((3 * c + s) * 31 + k)), Value.int ((mz_km rs c ((3 * c + s) * 31 + k) (mk c) (nI l) d w).2.1 12 ((3 * c + s) * 31 + k)), Value.int ((mz_km rs c ((3 * c + s) * 31 + k) (mk c) (nI l) d w).2.1 13 ((3 * c + s) * 31 + k))]))
    rw [el, e12, e13]
  · rcases hC with q | q
    · cases q
      have he' : mz_f6 n m (mz_km rs c ((3 * c + s) * 31 + k) (mk c) (nI l) d w) (mz_ap ad (11, c, mk c, 0) h.2) lv (va_up mk c (mk c + 1)) (mz_mm mm c (mk c) (s, k)) gi go gj c 0 0 = some e := he
      rw [mz_f6, if_pos ⟨hc, rfl, rfl⟩, va_up_self] at he'
      cases he'
      refine ⟨?_, b6⟩
      rw [d6, en]
      rfl
    · cases q
      have he' : mz_f9 n m (mz_km rs c ((3 * c + s) * 31 + k) (mk c) (nI l) d w) (mz_ap ad (11, c, mk c, 0) h.2) lv (va_up mk c (mk c + 1)) (mz_mm mm c (mk c) (s, k)) gi go gj c 0 0 = some e := he
      rw [mz_f9, if_pos ⟨hc, rfl, rfl⟩, va_up_self] at he'
      cases he'
      refine ⟨?_, b9⟩
      rw [o7 _ n69.symm, d9]
      refine congrArg (fun f => some (Sum.inl (12, 12, Sum.inr (Sum.inr (Sum.inr (Sum.inr f)))))) (funext fun x => ?_)
      by_cases hx : x = mk c
      · subst hx
        rw [va_up_self, if_pos (Nat.lt_succ_self _), ap_at]
      · rw [va_up_ne _ _ hx, ap_ne _ _ (by simp [hx])]
        by_cases hx2 : x < mk c
        · rw [if_pos hx2, if_pos (by omega)]
        · rw [if_neg hx2, if_neg (by omega)]
  · apply mz_hb <;> first | (exact fun _ _ _ _ => Or.inl rfl) | skip
    · intro i j k' hq
      by_cases hic : i = c
      · subst hic
        exact Or.inr (if_neg fun z => hq.2 (Or.inl (by rw [z.2.1, z.2.2])))
      · left
        unfold mz_f6
        rw [va_up_ne _ _ hic]
        rfl
    · intro i j k' hq
      by_cases hic : i = c
      · subst hic
        exact Or.inr (if_neg fun z => hq.2 (Or.inr (by rw [z.2.1, z.2.2])))
      · left
        unfold mz_f9
        rw [va_up_ne _ _ hic]
        have ea : ∀ x, mz_ap ad (11, c, mk c, 0) h.2 (11, i, x, 0) = ad (11, i, x, 0) := fun x => ap_ne _ _ (by simp [hic])
        simp only [ea]
    · intro i j k' hq
      by_cases hz : i < n ∧ j < va_up mk c (mk c + 1) i ∧ k' = 0
      · have hij : ¬ (i = c ∧ j = mk c) := fun e => hq.1 (by rw [e.1, e.2, hz.2.2])
        have hj : j < mk i := by
          by_cases hic : i = c
          · subst hic
            have := hz.2.1
            rw [va_up_self] at this
            have : j ≠ mk i := fun e => hij ⟨rfl, e⟩
            omega
          · have := hz.2.1
            rw [va_up_ne _ _ hic] at this
            exact this
        have em : mz_mm mm c (mk c) (s, k) i j = mm i j := if_neg hij
        obtain ⟨m1, m2⟩ := wm.2.1 i hz.1 j hj
        have hx : (3 * i + (mm i j).1) * 31 + (mm i j).2 ≠ (3 * c + s) * 31 + k := fun e => by
          have e1 : i = c := by omega
          subst e1
          have e2 : (mm i j).1 = s := by omega
          have e3 : (mm i j).2 = k := by omega
          exact hno ⟨j, hj, Prod.ext e2 e3⟩
        obtain ⟨y1, y2, y3⟩ := x10 _ hx
        left
        unfold mz_f11
        rw [if_pos hz, if_pos (show i < n ∧ j < mk i ∧ k' = 0 from ⟨hz.1, hj, hz.2.2⟩), em, y2, y3]
        have el : mz_lane (mz_km rs c ((3 * c + s) * 31 + k) (mk c) (nI l) d w) i ((3 * i + (mm i j).1) * 31 + (mm i j).2) = mz_lane rs i ((3 * i + (mm i j).1) * 31 + (mm i j).2) := by
          unfold mz_lane
          rw [y1]
          rfl
        rw [el]
      · exact Or.inr (if_neg hz)
theorem wc_member (wc : mz_wc n rs lv) {c p K : Nat} (hc : c < n) (hp : p < 93 * n) (l d w : Int32) : mz_wc n (mz_km rs c p K l d w) lv := by
  obtain ⟨a1, a2, a3, a4, a5, a6, a7, a8, a9, a10, a11, a12⟩ := wc
  refine ⟨a1, a2, a3, a4, a5, a6, a7, fun c' hc' => ⟨(a8 c' hc').1, (a8 c' hc').2.1, ?_, (a8 c' hc').2.2.2⟩, a9, a10, fun x hx => ?_, a12⟩
  · rw [show (mz_km rs c p K l d w).2.1 9 c' = rs.2.1 9 c' from pk_un (by omega)]
    exact (a8 c' hc').2.2.1
  · rw [show (mz_km rs c p K l d w).2.1 10 x = rs.2.1 10 x from pk_un (by omega)]
    exact a11 x hx
theorem wm_member (wm : mz_wm n rs mk mm) {c s k l d w b : Nat} (hc : c < n) (hs : s < 3) (hk : k < 31) (hl : l ≤ 10) (hd : d ≤ 2) (hw : w ≤ 7) (hK : mk c < 12) (e7 : rs.2.1 7 c = nI b) (hb : b ≤ 2) (hlk : mz_lk l b) (hno : ¬ ∃ i, i < mk c ∧ mm c i = (s, k)) : mz_wm n (mz_km rs c ((3 * c + s) * 31 + k) (mk c) (nI l) (nI d) (nI w)) (va_up mk c (mk c + 1)) (mz_mm mm c (mk c) (s, k)) := by
  obtain ⟨b1, b2, b3, b4, b5⟩ := wm
  have mn : ∀ c' i, ¬ (c' = c ∧ i = mk c) → mz_mm mm c (mk c) (s, k) c' i = mm c' i := fun c' i hh => if_neg hh
  have ms : mz_mm mm c (mk c) (s, k) c (mk c) = (s, k) := if_pos ⟨rfl, rfl⟩
  have hp : ∀ c' s' k', s' < 3 → k' < 31 → (3 * c' + s') * 31 + k' = (3 * c + s) * 31 + k → c' = c ∧ s' = s ∧ k' = k := fun c' s' k' h1 h2 h3 => ⟨by omega, by omega, by omega⟩
  refine ⟨fun c' hc' => ?_, fun c' hc' i hi => ?_, fun c' hc' i j hi hj e => ?_, fun c' hc' s' k' hs' hk' => ?_, fun c' hc' s' k' hs' hk' h1 => ?_⟩
  · by_cases h : c' = c
    · subst h
      rw [va_up_self]
      exact ⟨by omega, pk_us⟩
    · rw [va_up_ne _ _ h, show (mz_km rs c ((3 * c + s) * 31 + k) (mk c) (nI l) (nI d) (nI w)).2.1 9 c' = rs.2.1 9 c' from pk_un h]
      exact b1 c' hc'
  · by_cases h : c' = c ∧ i = mk c
    · obtain ⟨rfl, rfl⟩ := h
      rw [ms]
      exact ⟨hs, hk⟩
    · rw [mn c' i h]
      refine b2 c' hc' i ?_
      by_cases h' : c' = c
      · subst h'
        rw [va_up_self] at hi
        have : i ≠ mk c' := fun e => h ⟨rfl, e⟩
        omega
      · rw [va_up_ne _ _ h'] at hi
        exact hi
  · by_cases h' : c' = c
    · subst h'
      rw [va_up_self] at hi hj
      by_cases hi2 : i = mk c'
      · by_cases hj2 : j = mk c'
        · omega
        · rw [hi2, ms, mn c' j (fun z => hj2 z.2)] at e
          exact absurd ⟨j, by omega, e.symm⟩ hno
      · by_cases hj2 : j = mk c'
        · rw [hj2, ms, mn c' i (fun z => hi2 z.2)] at e
          exact absurd ⟨i, by omega, e⟩ hno
        · rw [mn c' i (fun z => hi2 z.2), mn c' j (fun z => hj2 z.2)] at e
          exact b3 c' hc' i j (by omega) (by omega) e
    · rw [va_up_ne _ _ h'] at hi hj
      rw [mn c' i (fun z => h' z.1), mn c' j (fun z => h' z.1)] at e
      exact b3 c' hc' i j hi hj e
  · by_cases hx : (3 * c' + s') * 31 + k' = (3 * c + s) * 31 + k
    · obtain ⟨rfl, rfl, rfl⟩ := hp c' s' k' hs' hk' hx
      exact Or.inl ⟨pk_us, mk c', by rw [va_up_self]; omega, ms⟩
    · rw [show (mz_km rs c ((3 * c + s) * 31 + k) (mk c) (nI l) (nI d) (nI w)).2.1 10 ((3 * c' + s') * 31 + k') = rs.2.1 10 ((3 * c' + s') * 31 + k') from pk_un hx]
      have iff : (∃ i, i < va_up mk c (mk c + 1) c' ∧ mz_mm mm c (mk c) (s, k) c' i = (s', k')) ↔ ∃ i, i < mk c' ∧ mm c' i = (s', k') := by
        constructor
        · rintro ⟨i, h1, h2⟩
          by_cases h : c' = c ∧ i = mk c
          · obtain ⟨rfl, rfl⟩ := h
            rw [ms] at h2
            cases h2
            exact absurd rfl hx
          · rw [mn c' i h] at h2
            refine ⟨i, ?_, h2⟩
            by_cases h' : c' = c
            · subst h'
              rw [va_up_self] at h1
              have : i ≠ mk c' := fun e => h ⟨rfl, e⟩
              omega
            · rw [va_up_ne _ _ h'] at h1
              exact h1
        · rintro ⟨i, h1, h2⟩
          refine ⟨i, ?_, ?_⟩
          · by_cases h' : c' = c
            · subst h'
              rw [va_up_self]
              omega
            · rw [va_up_ne _ _ h']
              exact h1
          · rw [mn c' i (fun z => by obtain ⟨rfl, rfl⟩ := z; omega)]
            exact h2
      rcases b4 c' hc' s' k' hs' hk' with ⟨h1, h2⟩ | ⟨h1, h2⟩
      · exact Or.inl ⟨h1, iff.mpr h2⟩
      · exact Or.inr ⟨h1, fun z => h2 (iff.mp z)⟩
  · by_cases hx : (3 * c' + s') * 31 + k' = (3 * c + s) * 31 + k
    · obtain ⟨rfl, rfl, rfl⟩ := hp c' s' k' hs' hk' hx
      refine ⟨⟨l, by omega, pk_us, fun h8 => ?_⟩, ⟨d, by omega, pk_us⟩, ⟨w, by omega, pk_us⟩⟩
      show nI (l - 9) < rs.2.1 7 c'
      rw [e7]
      rcases hlk with q | q
      · omega
      · exact nI_lt q (by omega)
    · rw [show (mz_km rs c ((3 * c + s) * 31 + k) (mk c) (nI l) (nI d) (nI w)).2.1 10 ((3 * c' + s') * 31 + k') = rs.2.1 10 ((3 * c' + s') * 31 + k') from pk_un hx] at h1
      rw [show (mz_km rs c ((3 * c + s) * 31 + k) (mk c) (nI l) (nI d) (nI w)).2.1 11 ((3 * c' + s') * 31 + k') = rs.2.1 11 ((3 * c' + s') * 31 + k') from pk_un hx, show (mz_km rs c ((3 * c + s) * 31 + k) (mk c) (nI l) (nI d) (nI w)).2.1 12 ((3 * c' + s') * 31 + k') = rs.2.1 12 ((3 * c' + s') * 31 + k') from pk_un hx, show (mz_km rs c ((3 * c + s) * 31 + k) (mk c) (nI l) (nI d) (nI w)).2.1 13 ((3 * c' + s') * 31 + k') = rs.2.1 13 ((3 * c' + s') * 31 + k') from pk_un hx]
      exact b5 c' hc' s' k' hs' hk' h1
end

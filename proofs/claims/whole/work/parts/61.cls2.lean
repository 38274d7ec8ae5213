/-! cls: the call -/
theorem nI_lit {a b : Nat} (ha : a < 2 ^ 31) (hb : b < 2 ^ 31) : (nI a = OfNat.ofNat b) ↔ a = b := nI_eq ha hb
theorem cs_may0 (h : mz_H) {f : Nat} (hf : f ≤ 5) : fn_X11_mayBeParent h (nI f) none = some (if f = 5 then 0 else 1, h, 0, 0) := by
  have q5 : nI f = 5 ↔ f = 5 := nI_eq (b := 5) (by omega) (by omega)
  simp only [fn_X11_mayBeParent, q5, zo_s, zc_t, zl_0, zr_e, z_0, z_1, if_true]
  split <;> rfl
theorem cs_may1 {h : mz_H} {a f g : Nat} (e : mz_fI h (some a) 8 0 = some (nI g)) (hf : f ≤ 5) (hg : g < 6) : fn_X11_mayBeParent h (nI f) (some a) = some (if (f = 5 ∧ g = 4) ∨ (f ≤ 1 ∧ g ≤ 1) then 1 else 0, h, 0, 0) := by
  have q5 : nI f = 5 ↔ f = 5 := nI_eq (b := 5) (by omega) (by omega)
  have q0 : nI f = 0 ↔ f = 0 := nI_eq (b := 0) (by omega) (by omega)
  have q1 : nI f = 1 ↔ f = 1 := nI_eq (b := 1) (by omega) (by omega)
  have g4 : nI g = 4 ↔ g = 4 := nI_eq (b := 4) (by omega) (by omega)
  have g0 : nI g = 0 ↔ g = 0 := nI_eq (b := 0) (by omega) (by omega)
  have g1 : nI g = 1 ↔ g = 1 := nI_eq (b := 1) (by omega) (by omega)
  simp only [fn_X11_mayBeParent, fn_X11_mayBeParent_b38, fn_X11_mayBeParent_b43, fn_X11_mayBeParent_b63, q5, q0, q1, e, g4, g0, g1, if_neg smn, if_neg one0, zo_s, zc_t, zl_0, zr_e, z_0, z_1, if_true]
  repeat' split
  all_goals first | rfl | (exfalso; omega)
theorem rs_b16n (q sz : Nat) (rs : mz_RS) {f : Nat} (hf : f ≤ 5) : fn_X12_cls_b16 (mz_RH q sz rs) (some q) (nI f) (-9) = if f = 5 then some (-3, mz_RH q sz rs, 0, 0) else fn_X12_cls_b97 (mz_RH q sz rs) (some q) (nI f) (-9) 1 := by
  have q5 : nI f = 5 ↔ f = 5 := nI_eq (b := 5) (by omega) (by omega)
  have q1 : 1 < nI f ↔ 1 < f := nI_ltI (a := 1) (by omega) (by omega)
  have c1 := nI_pos (show f < 2 ^ 31 by omega)
  have c2 : ¬ 5 < nI f := nI_nlt (b := f) (a := 5) hf (by omega)
  have z3 : fn_X12_cls_b97 (mz_RH q sz rs) (some q) (nI f) (-9) 0 = some (-3, mz_RH q sz rs, 0, 0) := by simp only [fn_X12_cls_b97, zo_s, zc_t, zl_0, zr_e, z_0, z_1, if_true]
  simp only [fn_X12_cls_b16, rs_within, if_neg c1, if_neg c2, if_neg one0, q1, q5, fn_X12_cls_b82, fn_X12_cls_b49, z3, zl_0, if_true]
  repeat' split
  all_goals first | rfl | (exfalso; omega)
theorem rs_b16s (q sz : Nat) (rs : mz_RS) {f g p : Nat} (hf : f ≤ 5) (hg : g < 6) (hp : p < 40) (e : rs.2.1 3 p = nI g) : fn_X12_cls_b16 (mz_RH q sz rs) (some q) (nI f) (nI p) = if (f = 5 ∧ g = 4) ∨ (f ≤ 1 ∧ g ≤ 1) then fn_X12_cls_b97 (mz_RH q sz rs) (some q) (nI f) (nI p) 1 else some (-3, mz_RH q sz rs, 0, 0) := by
  have q5 : nI f = 5 ↔ f = 5 := nI_eq (b := 5) (by omega) (by omega)
  have q1 : 1 < nI f ↔ 1 < f := nI_ltI (a := 1) (by omega) (by omega)
  have g1 : 1 < nI g ↔ 1 < g := nI_ltI (a := 1) (by omega) (by omega)
  have g4 : nI g = 4 ↔ g = 4 := nI_eq (b := 4) (by omega) (by omega)
  have c1 := nI_pos (show f < 2 ^ 31 by omega)
  have c2 : ¬ 5 < nI f := nI_nlt (b := f) (a := 5) hf (by omega)
  have z3 : fn_X12_cls_b97 (mz_RH q sz rs) (some q) (nI f) (nI p) 0 = some (-3, mz_RH q sz rs, 0, 0) := by simp only [fn_X12_cls_b97, zo_s, zc_t, zl_0, zr_e, z_0, z_1, if_true]
  simp only [fn_X12_cls_b16, rs_within, if_neg c1, if_neg c2, if_neg one0, q1, q5, if_neg (nI_ne9 (show p < 2 ^ 31 by omega)), rr_3, ra_3, ix_nI (show p < 40 by omega) (show 40 < 2 ^ 31 by omega), cl_nI (show p < 2 ^ 31 by omega), e, g1, g4, fn_X12_cls_b82, fn_X12_cls_b49, z3, zo_s, zl_0, if_true]
  repeat' split
  all_goals first | rfl | (exfalso; omega)
section
variable {VB : Nat} {n m : Nat} {rs : mz_RS} {ad : mz_T → Nat} {lv : Nat → Int32} {mk : Nat → Nat} {mm : Nat → Nat → Nat × Nat} {gi : Nat → Nat → Nat → Int32} {go : Nat → Nat → Option Nat} {gj : Nat → Nat → Int64} {h : mz_H}
theorem wc_cls (wc : mz_wc n rs lv) (hn : n < 40) {f l : Nat} (hf : f < 6) (p : Int32) (hl : l < 8) (hp : (p = -9 ∧ nI l = 0) ∨ ∃ p0, p0 < n ∧ p = nI p0 ∧ nI l = lv p0 + 1) : mz_wc (n + 1) (mz_kc rs n (nI f) p) (va_up lv n (nI l)) := by
  obtain ⟨a1, a2, a3, a4, a5, a6, a7, a8, a9, a10, a11, a12⟩ := wc
  obtain ⟨w5, w7, w9, w14⟩ := a8 n (Nat.le_refl n)
  refine ⟨by omega, rfl, fun c hc => ?_, fun c hc => ?_, fun c hc => ?_, fun c hc => ?_, fun c hc => ?_, fun c hc => a8 c (by omega), fun x hx => a9 x (by omega), fun x hx => a10 x (by omega), fun x hx => a11 x (by omega), fun c hc => ?_⟩
  · by_cases h : c = n
    · subst h
      exact ⟨f, hf, pk_us⟩
    · rw [show (mz_kc rs n (nI f) p).2.1 3 c = rs.2.1 3 c from pk_un h]
      exact a3 c (by omega)
  · by_cases h : c = n
    · subst h
      rw [show (mz_kc rs c (nI f) p).2.1 4 c = p from pk_us, va_up_self]
      rcases hp with q | ⟨p0, h1, h2, h3⟩
      · exact Or.inl q
      · exact Or.inr ⟨p0, h1, h2, by rw [va_up_ne _ _ (by omega)]; exact h3⟩
    · rw [show (mz_kc rs n (nI f) p).2.1 4 c = rs.2.1 4 c from pk_un h, va_up_ne _ _ h]
      rcases a4 c (by omega) with q | ⟨p0, h1, h2, h3⟩
      · exact Or.inl q
      · exact Or.inr ⟨p0, h1, h2, by rw [va_up_ne _ _ (by omega)]; exact h3⟩
  · by_cases h : c = n
    · subst h
      exact ⟨l, hl, va_up_self _ _ _⟩
    · rw [va_up_ne _ _ h]
      exact a5 c (by omega)
  · by_cases h : c = n
    · subst h
      exact ⟨0, by omega, w5, fun i hi => absurd hi (by omega)⟩
    · obtain ⟨g, h1, h2, h3⟩ := a6 c (by omega)
      exact ⟨g, h1, h2, fun i hi => by obtain ⟨d, h4, h5⟩ := h3 i hi; exact ⟨d, by omega, h5⟩⟩
  · by_cases h : c = n
    · subst h
      exact ⟨0, by omega, w7, fun i hi => absurd hi (by omega)⟩
    · exact a7 c (by omega)
  · by_cases h : c = n
    · subst h
      exact Or.inl w14
    · exact a12 c (by omega)
theorem wm_cls (wc : mz_wc n rs lv) (wm : mz_wm n rs mk mm) (f p : Int32) : mz_wm (n + 1) (mz_kc rs n f p) (va_up mk n 0) mm := by
  obtain ⟨w5, w7, w9, w14⟩ := wc.2.2.2.2.2.2.2.1 n (Nat.le_refl n)
  have w10 := wc.2.2.2.2.2.2.2.2.2.2.1
  obtain ⟨b1, b2, b3, b4, b5⟩ := wm
  refine ⟨fun c hc => ?_, fun c hc i hi => ?_, fun c hc i j hi hj => ?_, fun c hc s k hs hk => ?_, fun c hc s k hs hk h1 => ?_⟩
  · by_cases h : c = n
    · subst h
      rw [va_up_self]
      exact ⟨by omega, w9⟩
    · rw [va_up_ne _ _ h]
      exact b1 c (by omega)
  · by_cases h : c = n
    · subst h
      rw [va_up_self] at hi
      omega
    · rw [va_up_ne _ _ h] at hi
      exact b2 c (by omega) i hi
  · by_cases h : c = n
    · subst h
      rw [va_up_self] at hi
      omega
    · rw [va_up_ne _ _ h] at hi hj
      exact b3 c (by omega) i j hi hj
  · by_cases h : c = n
    · subst h
      exact Or.inr ⟨w10 _ (by omega), fun ⟨i, hi, _⟩ => by rw [va_up_self] at hi; omega⟩
    · rw [va_up_ne _ _ h]
      exact b4 c (by omega) s k hs hk
  · by_cases h : c = n
    · subst h
      have e : (mz_kc rs c f p).2.1 10 ((3 * c + s) * 31 + k) = 0 := w10 _ (by omega)
      rw [e] at h1
      exact absurd h1 (by decide)
    · exact b5 c (by omega) s k hs hk h1
theorem wo_cls (w : mz_wo n m rs) (f p : Int32) : mz_wo (n + 1) m (mz_kc rs n f p) := by
  obtain ⟨a1, a2, a3, a4⟩ := w
  refine ⟨a1, a2, fun o ho => ?_, a4⟩
  obtain ⟨⟨c, h1, h2⟩, h3⟩ := a3 o ho
  exact ⟨⟨c, by omega, h2⟩, h3⟩
/-- the class is made -/
theorem ok_cls {q l : Nat} (hR : mz_Rp VB n m rs ad lv mk mm gi go gj h) (w : mz_wc n rs lv ∧ mz_wm n rs mk mm ∧ mz_wo n m rs ∧ mz_wt0 rs gi go ∧ mz_wl n rs ∧ mz_wq rs gj ∧ ad (1, 0, 0, 0) = ad (1, 0, 0, 0) ∧ h.2 + 40 * (l + 1) + 1100 * (60 - m) ≤ VB) {f : Nat} (hf : f ≤ 5) (p : Int32) (L : Nat) (hL : L ≤ 8) (hp : (p = -9 ∧ L = 0) ∨ ∃ p0 L0, p0 < n ∧ p = nI p0 ∧ lv p0 = nI L0 ∧ L = L0 + 1) :
    mz_Ok VB (ad (1, 0, 0, 0)) q l rs (fun h => fn_X11_cls_b58 h (some (ad (1, 0, 0, 0))) (nI f) p (nI L)) (fun h => fn_X12_cls_b97 h (some q) (nI f) p 1) h := by
  obtain ⟨wc, wm, wo, wt, wl, wq, wa, wv⟩ := id w
  have hn40 := wc.1
  have H : mz_In VB (ad (1, 0, 0, 0)) (l + 1) rs h := ⟨n, m, ad, lv, mk, mm, gi, go, gj, hR, w⟩
  by_cases h40 : n = 40
  · have e1 : (40 : Int32) ≤ nI n := by rw [h40]; decide
    have e2 : nI n = 40 := by rw [h40]; rfl
    refine mz_Ok.same H (-4) ?_ ?_
    · simp only [fn_X11_cls_b58, cg_1_0 hR, cg_2_1 hR, if_pos e1, zo_s, zc_t, zl_0, zr_e, z_0, z_1, if_true]
    · simp only [fn_X12_cls_b97, if_neg one0, rg_2, wc.2.1, if_pos e2, zo_s, zc_t, zl_0, zr_e, z_0, z_1, if_true]
  have hn : n < 40 := by omega
  have e1 : ¬ (40 : Int32) ≤ nI n := nI_ge hn (show 40 < 2 ^ 31 by omega)
  have e2 : ¬ nI n = 40 := fun z => h40 ((nI_eq (b := 40) (by omega) (by omega)).mp z)
  by_cases h8 : L = 8
  · have n7 : ¬ nI L ≤ 7 := by rw [h8]; decide
    refine mz_Ok.same H (-4) ?_ ?_
    · simp only [fn_X11_cls_b58, cg_1_0 hR, cg_2_1 hR, if_neg e1, if_neg n7, zo_s, zc_t, zl_0, zr_e, z_0, z_1, if_true]
    · rcases hp with ⟨-, h0⟩ | ⟨p0, L0, hp0, rfl, el, hl⟩
      · omega
      · have A := rs_above (rs := rs) wc q h.2 L0 p0 0 1001 hp0 (by omega) el (by omega)
        rw [Nat.zero_add] at A
        have A' : fn_X12_above_b9 1001 (mz_RH q h.2 rs) (some q) 0 (rs.2.1 4 p0) = _ := A
        have e7 : nI L0 = 7 := by rw [show L0 = 7 by omega]; rfl
        simp only [fn_X12_cls_b97, if_neg one0, rg_2, wc.2.1, if_neg e2, if_neg (nI_ne9 (show p0 < 2 ^ 31 by omega)), mz_RH_is, fn_X12_above, rr_4, ra_4, ix_nI (show p0 < 40 by omega) (show 40 < 2 ^ 31 by omega), cl_nI (show p0 < 2 ^ 31 by omega), A', if_pos e7, zo_s, zc_t, zl_0, zr_e, z_0, z_1, if_true]
  have n7 : nI L ≤ 7 := nI_le (b := 7) (by omega) (by omega)
  obtain ⟨h1, ad', k1, R1, s1, ea⟩ := cw_cls hR wc hn (nI f) p (nI L) n7 (by omega)
  have en : nI n + 1 = nI (n + 1) := nI_add n 1
  have en2 : nI (n + 1) - 1 = nI n := by rw [← en]; exact Int32.add_sub_cancel _ _
  have x2 : (mz_sa rs 3 n (nI f)).1 2 = nI n := wc.2.1
  have x3 : (mz_sa (mz_sa rs 3 n (nI f)) 4 n p).1 2 = nI n := wc.2.1
  have x4 : (mz_si (mz_sa (mz_sa rs 3 n (nI f)) 4 n p) 2 (nI (n + 1))).1 2 = nI (n + 1) := rfl
  have B : fn_X12_cls_b133 (mz_RH q h1.2 rs) (some q) (nI f) p = some (nI n, mz_RH q h1.2 (mz_kc rs n (nI f) p), 0, 0) := by
    simp only [fn_X12_cls_b133, rr_3, rw_3, rr_4, rw_4, rg_2, rp_2, wc.2.1, ix_nI (show n < 40 by omega) (show 40 < 2 ^ 31 by omega), cl_nI (show n < 2 ^ 31 by omega), x2, x3, x4, en, en2, zo_s, zc_t, zl_0, zr_e, z_0, z_1, if_true]
    rfl
  have wc' : mz_wc (n + 1) (mz_kc rs n (nI f) p) (va_up lv n (nI L)) := wc_cls wc hn (by omega) p (by omega) (by
    rcases hp with ⟨e, h0⟩ | ⟨p0, L0, hp0, e, el, hl⟩
    · exact Or.inl ⟨e, by rw [h0]; rfl⟩
    · exact Or.inr ⟨p0, hp0, e, by rw [el, hl]; exact (nI_add L0 1).symm⟩)
  refine ⟨nI n, h1, 5, 31, mz_kc rs n (nI f) p, k1, ?_, ⟨n + 1, m, ad', _, _, mm, gi, go, gj, R1, wc', wm_cls wc wm _ _, wo_cls wo _ _, wt, wl, wq, ea, by omega⟩, by omega, Nat.le_refl _, by omega, by omega⟩
  rcases hp with ⟨e, h0⟩ | ⟨p0, L0, hp0, rfl, el, hl⟩
  · simp only [fn_X12_cls_b97, if_neg one0, rg_2, wc.2.1, if_neg e2, if_pos e, B, zo_s]
  · have A := rs_above (rs := rs) wc q h1.2 L0 p0 0 1001 hp0 (by omega) el (by omega)
    rw [Nat.zero_add] at A
    have A' : fn_X12_above_b9 1001 (mz_RH q h1.2 rs) (some q) 0 (rs.2.1 4 p0) = _ := A
    have e7 : ¬ nI L0 = 7 := fun z => by
      have := (nI_eq (b := 7) (by omega) (by omega)).mp z
      omega
    simp only [fn_X12_cls_b97, if_neg one0, rg_2, wc.2.1, if_neg e2, if_neg (nI_ne9 (show p0 < 2 ^ 31 by omega)), mz_RH_is, fn_X12_above, rr_4, ra_4, ix_nI (show p0 < 40 by omega) (show 40 < 2 ^ 31 by omega), cl_nI (show p0 < 2 ^ 31 by omega), A', if_neg e7, B, zo_s, zc_t, zl_0, if_true]
end
theorem k_cls {VB o q l : Nat} {rs : mz_RS} {h : mz_H} (H : mz_In VB o (l + 1) rs h) (x y : Int32) : mz_Ok VB o q l rs (fun h => fn_X11_cls h (some o) x y) (fun h => fn_X12_cls h (some q) x y) h := by
  obtain ⟨n, m, ad, lv, mk, mm, gi, go, gj, hR, w⟩ := id H
  obtain ⟨wc, wm, wo, wt, wl, wq, wa, wv⟩ := id w
  obtain rfl : ad (1, 0, 0, 0) = o := wa
  have hn40 := wc.1
  have hm60 := wo.1
  have e5 : (5 < x) ↔ ¬ (x ≤ 5) := Int32.not_le.symm
  by_cases c9 : y = -9
  · subst c9
    have T := cs_typeOf_no hR (c := -9) (Or.inl (by decide))
    by_cases c1 : x < 0
    · exact mz_Ok.same H (-2) (by simp only [fn_X11_cls, cg_1_0 hR, ci_2 hR, T, fn_X11_cls_b21, if_pos c1, zo_s, zc_t, zl_0, zr_e, z_0, z_1, if_true]) (by simp only [fn_X12_cls, fn_X12_cls_b16, rs_within, if_pos c1, zo_s, zc_t, zl_0, zr_e, z_0, z_1, if_true])
    by_cases c2 : x ≤ 5
    case neg => exact mz_Ok.same H (-2) (by simp only [fn_X11_cls, cg_1_0 hR, ci_2 hR, T, fn_X11_cls_b21, if_neg c1, if_neg c2, zo_s, zc_t, zl_0, zr_e, z_0, z_1, if_true]) (by simp only [fn_X12_cls, fn_X12_cls_b16, rs_within, if_neg c1, if_pos (e5.mpr c2), zo_s, zc_t, zl_0, zr_e, z_0, z_1, if_true])
    obtain ⟨f, hf, rfl⟩ : ∃ i : Nat, i ≤ 5 ∧ x = nI i := nI_of2 (M := 5) rfl c1 c2
    have M := cs_may0 h hf
    by_cases f5 : f = 5
    · rw [if_pos f5] at M
      exact mz_Ok.same H (-3) (by simp only [fn_X11_cls, cg_1_0 hR, ci_2 hR, T, fn_X11_cls_b21, if_neg c1, if_pos c2, M, zo_s, zc_t, zl_0, zr_e, z_0, z_1, if_true]) (by simp only [fn_X12_cls, rs_b16n q h.2 rs hf, if_pos f5, if_true])
    · rw [if_neg f5] at M
      refine mz_Ok.cong ?_ (fun sz => ?_) (ok_cls hR w hf (-9) 0 (by omega) (Or.inl ⟨rfl, rfl⟩))
      · simp only [fn_X11_cls, cg_1_0 hR, ci_2 hR, T, fn_X11_cls_b21, if_neg c1, if_pos c2, M, if_neg one0, zo_s, zc_t, zl_0, if_true]
        rfl
      · simp only [fn_X12_cls, rs_b16n q sz rs hf, if_neg f5, if_true]
  rcases mz_no y (show n < 2 ^ 31 by omega) with hy | ⟨p, hp, rfl⟩
  · exact mz_Ok.same H (-1) (by simp only [fn_X11_cls, cg_1_0 hR, ci_2 hR, cs_typeOf_no hR hy, if_neg c9, zo_s, zc_t, zl_0, zr_e, z_0, z_1, if_true]) (by simp only [fn_X12_cls, if_neg c9, mz_RH_is, rs_isClass_no q h.2 wc.2.1 hy, zo_s, zc_t, zl_0, zr_e, z_0, z_1, if_true])
  have T := cs_typeOf hR wc.1 hp
  have RC := fun sz => rs_isClass (rs := rs) q sz wc.2.1 wc.1 hp
  by_cases c1 : x < 0
  · exact mz_Ok.same H (-2) (by simp only [fn_X11_cls, cg_1_0 hR, ci_2 hR, T, if_neg smn, fn_X11_cls_b21, if_pos c1, zo_s, zc_t, zl_0, zr_e, z_0, z_1, if_true]) (by simp only [fn_X12_cls, if_neg c9, mz_RH_is, RC, if_neg one0, fn_X12_cls_b16, rs_within, if_pos c1, zo_s, zc_t, zl_0, zr_e, z_0, z_1, if_true])
  by_cases c2 : x ≤ 5
  case neg => exact mz_Ok.same H (-2) (by simp only [fn_X11_cls, cg_1_0 hR, ci_2 hR, T, if_neg smn, fn_X11_cls_b21, if_neg c1, if_neg c2, zo_s, zc_t, zl_0, zr_e, z_0, z_1, if_true]) (by simp only [fn_X12_cls, if_neg c9, mz_RH_is, RC, if_neg one0, fn_X12_cls_b16, rs_within, if_neg c1, if_pos (e5.mpr c2), zo_s, zc_t, zl_0, zr_e, z_0, z_1, if_true])
  obtain ⟨f, hf, rfl⟩ : ∃ i : Nat, i ≤ 5 ∧ x = nI i := nI_of2 (M := 5) rfl c1 c2
  obtain ⟨g, hg, eg⟩ := wc.2.2.1 p hp
  have G : mz_fI h (some (ad (6, p, 0, 0))) 8 0 = some (nI g) := by rw [cg_6_0 hR hp, eg]
  have M := cs_may1 G hf hg
  obtain ⟨L0, hL0, el⟩ := wc.2.2.2.2.1 p hp
  by_cases ff : (f = 5 ∧ g = 4) ∨ (f ≤ 1 ∧ g ≤ 1)
  · rw [if_pos ff] at M
    refine mz_Ok.cong ?_ (fun sz => ?_) (ok_cls hR w hf (nI p) (L0 + 1) (by omega) (Or.inr ⟨p, L0, hp, rfl, el, rfl⟩))
    · have e1 : nI L0 + 1 = nI (L0 + 1) := nI_add L0 1
      simp only [fn_X11_cls, cg_1_0 hR, ci_2 hR, T, if_neg smn, fn_X11_cls_b21, if_neg c1, if_pos c2, M, if_neg one0, cg_6_2 hR hp, el, e1, zo_s, zc_t, zl_0]
    · simp only [fn_X12_cls, if_neg c9, mz_RH_is, RC, if_neg one0, rs_b16s q sz rs hf hg (show p < 40 by omega) eg, if_pos ff, zc_t, zl_0]
  · rw [if_neg ff] at M
    exact mz_Ok.same H (-3) (by simp only [fn_X11_cls, cg_1_0 hR, ci_2 hR, T, if_neg smn, fn_X11_cls_b21, if_neg c1, if_pos c2, M, zo_s, zc_t, zl_0, zr_e, z_0, z_1, if_true]) (by simp only [fn_X12_cls, if_neg c9, mz_RH_is, RC, if_neg one0, rs_b16s q h.2 rs hf hg (show p < 40 by omega) eg, if_neg ff, zc_t, zl_0])

/-! cls -/
theorem zn_3 {α : Type} (h : mz_H) (t : Nat) (x : (Nat → Int32) ⊕ (Nat → Int64) ⊕ (Nat → UInt32) ⊕ (Nat → UInt64) ⊕ (Nat → Option Nat)) (K : Option Nat → mz_H → mz_Res α) : mz_aN h t 3 x K = mz_al 1 3 (K (some h.2) (mz_nw h (.inl (t, 3, x)))) := zn_a h t (j := 3) (by omega) x K
theorem zn_2 {α : Type} (h : mz_H) (t : Nat) (x : (Nat → Int32) ⊕ (Nat → Int64) ⊕ (Nat → UInt32) ⊕ (Nat → UInt64) ⊕ (Nat → Option Nat)) (K : Option Nat → mz_H → mz_Res α) : mz_aN h t 2 x K = mz_al 1 2 (K (some h.2) (mz_nw h (.inl (t, 2, x)))) := zn_a h t (j := 2) (by omega) x K
theorem zn_12 {α : Type} (h : mz_H) (t : Nat) (x : (Nat → Int32) ⊕ (Nat → Int64) ⊕ (Nat → UInt32) ⊕ (Nat → UInt64) ⊕ (Nat → Option Nat)) (K : Option Nat → mz_H → mz_Res α) : mz_aN h t 12 x K = mz_al 1 12 (K (some h.2) (mz_nw h (.inl (t, 12, x)))) := zn_a h t (j := 12) (by omega) x K
/-- an array is made, and a field of an earlier object refers to it -/
theorem aF_ex {h : mz_H} {a ci k t N : Nat} {fs : List Value} {x : (Nat → Int32) ⊕ (Nat → Int64) ⊕ (Nat → UInt32) ⊕ (Nat → UInt64) ⊕ (Nat → Option Nat)} (hc : h.1 a = some (.inr (ci, fs))) (ha : a < h.2) (hk : k < fs.length) : ∃ h', mz_pF (mz_nw h (.inl (t, N, x))) (some a) ci k (va_rf (some h.2)) = some h' ∧ h'.2 = h.2 + 1 ∧ h'.1 a = some (.inr (ci, fs.set k (.ref h.2))) ∧ h'.1 h.2 = some (.inl (t, N, x)) ∧ ∀ b, b ≠ a → b ≠ h.2 → h'.1 b = h.1 b := by
  obtain ⟨h', k', s', c', o'⟩ := pF_ex (k := k) (v := va_rf (some h.2)) ((nw_ne h (.inl (t, N, x)) (Nat.ne_of_lt ha)).trans hc) hk
  exact ⟨h', k', s', c', (o' _ (by omega)).trans (nw_at _ _), fun b h1 h2 => (o' b h1).trans (nw_ne _ _ h2)⟩
theorem cs_typeNew (h : mz_H) (x y z : Int32) : ∃ h', fn_X9_init (mz_nw h (.inr (8, [.int 0, .int 0, .int 0, .null, .int 0, .null, .int 0, .null, .int 0, .null, .int 0]))) (some h.2) x y z = some ((), h', 4, 20) ∧ h'.2 = h.2 + 5 ∧ h'.1 h.2 = some (.inr (8, [.int x, .int y, .int z, .ref (h.2 + 1), .int 0, .ref (h.2 + 2), .int 0, .ref (h.2 + 3), .int 0, .ref (h.2 + 4), .int 0])) ∧ h'.1 (h.2 + 1) = some (.inl (0, 3, .inl (fun _ => 0))) ∧ h'.1 (h.2 + 2) = some (.inl (0, 2, .inl (fun _ => 0))) ∧ h'.1 (h.2 + 3) = some (.inl (12, 12, .inr (.inr (.inr (.inr (fun _ => none)))))) ∧ h'.1 (h.2 + 4) = some (.inl (0, 3, .inl (fun _ => 0))) ∧ ∀ a, a < h.2 → h'.1 a = h.1 a := by
  have c0 := nw_at h (.inr (8, [.int 0, .int 0, .int 0, .null, .int 0, .null, .int 0, .null, .int 0, .null, .int 0]))
  obtain ⟨h1, k1, s1, c1, d1, o1⟩ := aF_ex (k := 3) (t := 0) (N := 3) (x := .inl (fun _ => 0)) c0 (Nat.lt_succ_self _) (lt_rfl rfl)
  have s1' : h1.2 = h.2 + 2 := s1
  obtain ⟨h2, k2, s2, c2, d2, o2⟩ := aF_ex (k := 5) (t := 0) (N := 2) (x := .inl (fun _ => 0)) c1 (by omega) (lt_rfl rfl)
  obtain ⟨h3, k3, s3, c3, d3, o3⟩ := aF_ex (k := 7) (t := 12) (N := 12) (x := .inr (.inr (.inr (.inr (fun _ => none))))) c2 (by omega) (lt_rfl rfl)
  obtain ⟨h4, k4, s4, c4, d4, o4⟩ := aF_ex (k := 9) (t := 0) (N := 3) (x := .inl (fun _ => 0)) c3 (by omega) (lt_rfl rfl)
  obtain ⟨h5, k5, s5, c5, o5⟩ := pF_ex (k := 0) (v := .int x) c4 (lt_rfl rfl)
  obtain ⟨h6, k6, s6, c6, o6⟩ := pF_ex (k := 1) (v := .int y) c5 (lt_rfl rfl)
  obtain ⟨h7, k7, s7, c7, o7⟩ := pF_ex (k := 2) (v := .int z) c6 (lt_rfl rfl)
  have e1 : (mz_nw h (.inr (8, [.int 0, .int 0, .int 0, .null, .int 0, .null, .int 0, .null, .int 0, .null, .int 0]))).2 = h.2 + 1 := rfl
  rw [e1] at d1 o1
  refine ⟨h7, ?_, by omega, ?_, ?_, ?_, ?_, ?_, fun a ha => ?_⟩
  · simp only [fn_X9_init, Option.isSome, zn_3, zn_2, zn_12, k1, k2, k3, k4, k5, k6, k7, za_s, zo_s, zc_t, zl_0, zr_e, z_0, z_1, if_true]
  · rw [c7]
    show some (Sum.inr (8, [Value.int x, Value.int y, Value.int z, Value.ref (h.2 + 1), Value.int 0, Value.ref h1.2, Value.int 0, Value.ref h2.2, Value.int 0, Value.ref h3.2, Value.int 0])) = _
    rw [s3, s2, s1']
  · rw [o7 _ (by omega), o6 _ (by omega), o5 _ (by omega), o4 _ (by omega) (by omega), o3 _ (by omega) (by omega), o2 _ (by omega) (by omega), d1]
  · rw [o7 _ (by omega), o6 _ (by omega), o5 _ (by omega), o4 _ (by omega) (by omega), o3 _ (by omega) (by omega), ← s1', d2]
  · rw [o7 _ (by omega), o6 _ (by omega), o5 _ (by omega), o4 _ (by omega) (by omega), show h.2 + 3 = h2.2 by omega, d3]
  · rw [o7 _ (by omega), o6 _ (by omega), o5 _ (by omega), show h.2 + 4 = h3.2 by omega, d4]
  · rw [o7 _ (by omega), o6 _ (by omega), o5 _ (by omega), o4 _ (by omega) (by omega), o3 _ (by omega) (by omega), o2 _ (by omega) (by omega), o1 _ (by omega) (by omega), nw_ne _ _ (by omega)]
theorem rs_above {n : Nat} {rs : mz_RS} {lv : Nat → Int32} (wc : mz_wc n rs lv) (q sz : Nat) : ∀ (L c k f : Nat), c < n → L < 8 → lv c = nI L → L < f → fn_X12_above_b9 f (mz_RH q sz rs) (some q) (nI k) (rs.2.1 4 c) = some (nI (k + L), mz_RH q sz rs, 0, 0) := by
  have hn := wc.1
  intro L
  induction L with
  | zero =>
    intro c k f hc hL el hf
    obtain ⟨f, rfl⟩ : ∃ g', f = g' + 1 := ⟨f - 1, by omega⟩
    rcases wy_up wc hc hL el with ⟨-, e⟩ | ⟨p, L', hz, -⟩
    · simp only [fn_X12_above_b9, e, Nat.add_zero, zo_s, zc_t, zl_0, zr_e, z_0, z_1, if_true]
    · omega
  | succ L ih =>
    intro c k f hc hL el hf
    obtain ⟨f, rfl⟩ : ∃ g', f = g' + 1 := ⟨f - 1, by omega⟩
    rcases wy_up wc hc hL el with ⟨hz, -⟩ | ⟨p, L', hz, hp, e, el'⟩
    · omega
    · obtain rfl : L' = L := by omega
      have I := ih p (k + 1) f (by omega) (by omega) el' (by omega)
      rw [show nI (k + 1) = nI k + 1 from (nI_add k 1).symm] at I
      rw [show k + (L' + 1) = k + 1 + L' by omega]
      simp only [fn_X12_above_b9, e, if_neg (nI_ne9 (show p < 2 ^ 31 by omega)), rr_4, ra_4, ix_nI (show p < 40 by omega) (show 40 < 2 ^ 31 by omega), cl_nI (show p < 2 ^ 31 by omega), I, zo_s, if_true]
def mz_kc (rs : mz_RS) (n : Nat) (f p : Int32) : mz_RS := mz_si (mz_sa (mz_sa rs 3 n f) 4 n p) 2 (nI (n + 1))
section
variable {VB : Nat} {n m : Nat} {rs : mz_RS} {ad : mz_T → Nat} {lv : Nat → Int32} {mk : Nat → Nat} {mm : Nat → Nat → Nat × Nat} {gi : Nat → Nat → Nat → Int32} {go : Nat → Nat → Option Nat} {gj : Nat → Nat → Int64} {h : mz_H}
theorem cw_cls (hR : mz_Rp VB n m rs ad lv mk mm gi go gj h) (wc : mz_wc n rs lv) (hn : n < 40) (f p : Int32) (L : Int32) (hL : L ≤ 7) (hv : h.2 + 5 ≤ VB) : ∃ h' ad', fn_X11_cls_b58 h (some (ad (1, 0, 0, 0))) f p L = some (nI n, h', 5, 31) ∧ mz_Rp VB (n + 1) m (mz_kc rs n f p) ad' (va_up lv n L) (va_up mk n 0) mm gi go gj h' ∧ h'.2 = h.2 + 5 ∧ ad' (1, 0, 0, 0) = ad (1, 0, 0, 0) := by
  obtain ⟨h1, k1, s1, t6, t7, t8, t9, t10, o1⟩ := cs_typeNew h f p L
  have b2 := cb_2 hR
  have b3 := cb_3 hR
  have n23 : ad (2, 0, 0, 0) ≠ ad (3, 0, 0, 0) := fun e => by have := hR.2.1 _ _ e; simp at this
  have c2 : h1.1 (ad (2, 0, 0, 0)) = _ := (o1 _ b2).trans (cc_2 hR)
  have c3 : h1.1 (ad (3, 0, 0, 0)) = _ := (o1 _ b3).trans (cc_3 hR)
  obtain ⟨h2, k2, s2, d3, o2⟩ := sR_ex (j := n) (v := some h.2) c3 hn (by omega) (by simp only [is_of t6, Bool.or_true])
  have c2' : h2.1 (ad (2, 0, 0, 0)) = _ := (o2 _ n23).trans c2
  obtain ⟨h3, k3, s3, d2, o3⟩ := pF_ex (k := 1) (v := .int (nI n + 1)) c2' (lt_rfl rfl)
  have lt40 : nI n < Int32.ofNat 40 := nI_lt hn (show 40 < 2 ^ 31 by omega)
  have ng : ¬ 40 ≤ nI n := nI_ge hn (show 40 < 2 ^ 31 by omega)
  have en : nI n + 1 = nI (n + 1) := nI_add n 1
  have nN : ∀ t : mz_T, ad t = ad t := fun _ => rfl
  refine ⟨h3, mz_ap (mz_ap (mz_ap (mz_ap (mz_ap ad (6, n, 0, 0) h.2) (7, n, 0, 0) (h.2 + 1)) (8, n, 0, 0) (h.2 + 2)) (9, n, 0, 0) (h.2 + 3)) (10, n, 0, 0) (h.2 + 4), ?_, ?_, by omega, rfl⟩
  · have g1 : mz_fI h1 (some (ad (2, 0, 0, 0))) 9 1 = some (nI n) := fI_of c2 rfl
    have g2 : mz_fR h1 (some (ad (2, 0, 0, 0))) 9 0 = some (some (ad (3, 0, 0, 0))) := fR_of (r := some (ad (3, 0, 0, 0))) c2 rfl
    have g3 : mz_fI h2 (some (ad (2, 0, 0, 0))) 9 1 = some (nI n) := fI_of c2' rfl
    have g4 : mz_fI h3 (some (ad (2, 0, 0, 0))) 9 1 = some (nI n + 1) := fI_of d2 rfl
    have g5 : nI n + 1 - 1 = nI n := Int32.add_sub_cancel _ _
    have l3 : mz_len h1 (some (ad (3, 0, 0, 0))) 18 = some (nI 40) := len_of c3
    have lt40' : nI n < nI 40 := lt40
    simp only [fn_X11_cls_b58, cg_1_0 hR, cg_2_1 hR, if_neg ng, if_pos hL, zn_o, is_of (nw_at h _), k1, is_of c2, fn_X10_add, g1, g2, l3, if_pos lt40', k2, g3, k3, g4, g5, zl_s, za_s, zo_s, zc_t, zl_0, zr_e]
  have e3 : (mz_kc rs n f p).2.1 3 n = f := pk_us
  have e4 : (mz_kc rs n f p).2.1 4 n = p := pk_us
  have e3' : ∀ i, i ≠ n → (mz_kc rs n f p).2.1 3 i = rs.2.1 3 i := fun i hi => pk_un hi
  have e4' : ∀ i, i ≠ n → (mz_kc rs n f p).2.1 4 i = rs.2.1 4 i := fun i hi => pk_un hi
  obtain ⟨w5, w7, w9, w14⟩ := wc.2.2.2.2.2.2.2.1 n (Nat.le_refl n)
  have w6 := wc.2.2.2.2.2.2.2.2.1
  have w8 := wc.2.2.2.2.2.2.2.2.2.1
  refine hR.bulk (fun t => t = (6, n, 0, 0) ∨ t = (7, n, 0, 0) ∨ t = (8, n, 0, 0) ∨ t = (9, n, 0, 0) ∨ t = (10, n, 0, 0)) (fun t => t = (2, 0, 0, 0) ∨ t = (3, 0, 0, 0)) (by omega) (by omega) (fun t ht => ?_) (fun t ht => ?_) (fun t t' q1 q2 e => ?_) (fun a ha hC => ?_) (fun f' i j k' e hN' he => ?_) (fun f' i j k' e hC _ he => ?_) ?_
  · rw [ap_ne _ _ (fun q => ht (Or.inr (Or.inr (Or.inr (Or.inr q))))), ap_ne _ _ (fun q => ht (Or.inr (Or.inr (Or.inr (Or.inl q))))), ap_ne _ _ (fun q => ht (Or.inr (Or.inr (Or.inl q)))), ap_ne _ _ (fun q => ht (Or.inr (Or.inl q))), ap_ne _ _ (fun q => ht (Or.inl q))]
  · rcases ht with rfl | rfl | rfl | rfl | rfl <;> simp [mz_ap, mz_te] <;> omega
  · rcases q1 with rfl | rfl | rfl | rfl | rfl <;> rcases q2 with rfl | rfl | rfl | rfl | rfl <;> first | rfl | (simp [mz_ap, mz_te] at e)
  · rw [o3 _ (hC _ (Or.inl rfl)), o2 _ (hC _ (Or.inr rfl)), o1 _ ha]
  · rcases hN' with q | q | q | q | q
    · cases q
      have he' : mz_f6 (n + 1) m (mz_kc rs n f p) (mz_ap (mz_ap (mz_ap (mz_ap (mz_ap ad (6, n, 0, 0) h.2) (7, n, 0, 0) (h.2 + 1)) (8, n, 0, 0) (h.2 + 2)) (9, n, 0, 0) (h.2 + 3)) (10, n, 0, 0) (h.2 + 4)) (va_up lv n L) (va_up mk n 0) mm gi go gj n 0 0 = some e := he
      rw [mz_f6, if_pos ⟨Nat.lt_succ_self n, rfl, rfl⟩, e3, e4, va_up_self, va_up_self] at he'
      rw [show (mz_kc rs n f p).2.1 5 n = 0 from w5, show (mz_kc rs n f p).2.1 7 n = 0 from w7, show (mz_kc rs n f p).2.1 14 n = 0 from w14] at he'
      simp [mz_ap, mz_te] at he'
      rw [← he']
      simp [mz_ap, mz_te]
      rw [o3 _ (by omega), o2 _ (by omega), t6]
      rfl
    · cases q
      have he' : mz_f7 (n + 1) m (mz_kc rs n f p) (mz_ap (mz_ap (mz_ap (mz_ap (mz_ap ad (6, n, 0, 0) h.2) (7, n, 0, 0) (h.2 + 1)) (8, n, 0, 0) (h.2 + 2)) (9, n, 0, 0) (h.2 + 3)) (10, n, 0, 0) (h.2 + 4)) (va_up lv n L) (va_up mk n 0) mm gi go gj n 0 0 = some e := he
      rw [mz_f7, if_pos ⟨Nat.lt_succ_self n, rfl, rfl⟩] at he'
      cases he'
      rw [show mz_ap (mz_ap (mz_ap (mz_ap (mz_ap ad (6, n, 0, 0) h.2) (7, n, 0, 0) (h.2 + 1)) (8, n, 0, 0) (h.2 + 2)) (9, n, 0, 0) (h.2 + 3)) (10, n, 0, 0) (h.2 + 4) (7, n, 0, 0) = h.2 + 1 by simp [mz_ap, mz_te], o3 _ (by omega), o2 _ (by omega), t7]
      refine congrArg (fun f => some (Sum.inl (0, 3, Sum.inl f))) (funext fun c => ?_)
      rw [show (mz_kc rs n f p).2.1 6 (3 * n + c) = 0 from (w6 _ (by omega)).1, ite_self]
    · cases q
      have he' : mz_f8 (n + 1) m (mz_kc rs n f p) (mz_ap (mz_ap (mz_ap (mz_ap (mz_ap ad (6, n, 0, 0) h.2) (7, n, 0, 0) (h.2 + 1)) (8, n, 0, 0) (h.2 + 2)) (9, n, 0, 0) (h.2 + 3)) (10, n, 0, 0) (h.2 + 4)) (va_up lv n L) (va_up mk n 0) mm gi go gj n 0 0 = some e := he
      rw [mz_f8, if_pos ⟨Nat.lt_succ_self n, rfl, rfl⟩] at he'
      cases he'
      rw [show mz_ap (mz_ap (mz_ap (mz_ap (mz_ap ad (6, n, 0, 0) h.2) (7, n, 0, 0) (h.2 + 1)) (8, n, 0, 0) (h.2 + 2)) (9, n, 0, 0) (h.2 + 3)) (10, n, 0, 0) (h.2 + 4) (8, n, 0, 0) = h.2 + 2 by simp [mz_ap, mz_te], o3 _ (by omega), o2 _ (by omega), t8]
      refine congrArg (fun f => some (Sum.inl (0, 2, Sum.inl f))) (funext fun c => ?_)
      rw [show (mz_kc rs n f p).2.1 8 (2 * n + c) = 0 from w8 _ (by omega), ite_self]
    · cases q
      have he' : mz_f9 (n + 1) m (mz_kc rs n f p) (mz_ap (mz_ap (mz_ap (mz_ap (mz_ap ad (6, n, 0, 0) h.2) (7, n, 0, 0) (h.2 + 1)) (8, n, 0, 0) (h.2 + 2)) (9, n, 0, 0) (h.2 + 3)) (10, n, 0, 0) (h.2 + 4)) (va_up lv n L) (va_up mk n 0) mm gi go gj n 0 0 = some e := he
      rw [mz_f9, if_pos ⟨Nat.lt_succ_self n, rfl, rfl⟩] at he'
      cases he'
      rw [show mz_ap (mz_ap (mz_ap (mz_ap (mz_ap ad (6, n, 0, 0) h.2) (7, n, 0, 0) (h.2 + 1)) (8, n, 0, 0) (h.2 + 2)) (9, n, 0, 0) (h.2 + 3)) (10, n, 0, 0) (h.2 + 4) (9, n, 0, 0) = h.2 + 3 by simp [mz_ap, mz_te], o3 _ (by omega), o2 _ (by omega), t9]
      refine congrArg (fun f => some (Sum.inl (12, 12, Sum.inr (Sum.inr (Sum.inr (Sum.inr f)))))) (funext fun c => ?_)
      rw [va_up_self, if_neg (by omega)]
    · cases q
      have he' : mz_f10 (n + 1) m (mz_kc rs n f p) (mz_ap (mz_ap (mz_ap (mz_ap (mz_ap ad (6, n, 0, 0) h.2) (7, n, 0, 0) (h.2 + 1)) (8, n, 0, 0) (h.2 + 2)) (9, n, 0, 0) (h.2 + 3)) (10, n, 0, 0) (h.2 + 4)) (va_up lv n L) (va_up mk n 0) mm gi go gj n 0 0 = some e := he
      rw [mz_f10, if_pos ⟨Nat.lt_succ_self n, rfl, rfl⟩] at he'
      cases he'
      rw [show mz_ap (mz_ap (mz_ap (mz_ap (mz_ap ad (6, n, 0, 0) h.2) (7, n, 0, 0) (h.2 + 1)) (8, n, 0, 0) (h.2 + 2)) (9, n, 0, 0) (h.2 + 3)) (10, n, 0, 0) (h.2 + 4) (10, n, 0, 0) = h.2 + 4 by simp [mz_ap, mz_te], o3 _ (by omega), o2 _ (by omega), t10]
      refine congrArg (fun f => some (Sum.inl (0, 3, Sum.inl f))) (funext fun c => ?_)
      rw [show (mz_kc rs n f p).2.1 15 (3 * n + c) = 0 from (w6 _ (by omega)).2, ite_self]
  · rcases hC with q | q
    · cases q
      have he' : mz_f2 (n + 1) m (mz_kc rs n f p) (mz_ap (mz_ap (mz_ap (mz_ap (mz_ap ad (6, n, 0, 0) h.2) (7, n, 0, 0) (h.2 + 1)) (8, n, 0, 0) (h.2 + 2)) (9, n, 0, 0) (h.2 + 3)) (10, n, 0, 0) (h.2 + 4)) (va_up lv n L) (va_up mk n 0) mm gi go gj 0 0 0 = some e := he
      rw [mz_f2, if_pos ⟨rfl, rfl, rfl⟩] at he'
      cases he'
      refine ⟨?_, b2⟩
      rw [d2, en]
      rfl
    · cases q
      have he' : mz_f3 (n + 1) m (mz_kc rs n f p) (mz_ap (mz_ap (mz_ap (mz_ap (mz_ap ad (6, n, 0, 0) h.2) (7, n, 0, 0) (h.2 + 1)) (8, n, 0, 0) (h.2 + 2)) (9, n, 0, 0) (h.2 + 3)) (10, n, 0, 0) (h.2 + 4)) (va_up lv n L) (va_up mk n 0) mm gi go gj 0 0 0 = some e := he
      rw [mz_f3, if_pos ⟨rfl, rfl, rfl⟩] at he'
      cases he'
      refine ⟨?_, b3⟩
      rw [o3 _ n23.symm, d3]
      refine congrArg (fun f => some (Sum.inl (18, 40, Sum.inr (Sum.inr (Sum.inr (Sum.inr f)))))) (funext fun c => ?_)
      by_cases hc : c = n
      · subst hc
        rw [va_up_self, if_pos (Nat.lt_succ_self _)]
        simp [mz_ap, mz_te]
      · rw [va_up_ne _ _ hc]
        have ea : mz_ap (mz_ap (mz_ap (mz_ap (mz_ap ad (6, n, 0, 0) h.2) (7, n, 0, 0) (h.2 + 1)) (8, n, 0, 0) (h.2 + 2)) (9, n, 0, 0) (h.2 + 3)) (10, n, 0, 0) (h.2 + 4) (6, c, 0, 0) = ad (6, c, 0, 0) := by simp [mz_ap, mz_te, hc]
        rw [ea]
        by_cases hc2 : c < n
        · rw [if_pos hc2, if_pos (by omega)]
        · rw [if_neg hc2, if_neg (by omega)]
  · have ea : ∀ i, i ≠ n → ∀ f' j k', mz_ap (mz_ap (mz_ap (mz_ap (mz_ap ad (6, n, 0, 0) h.2) (7, n, 0, 0) (h.2 + 1)) (8, n, 0, 0) (h.2 + 2)) (9, n, 0, 0) (h.2 + 3)) (10, n, 0, 0) (h.2 + 4) (f', i, j, k') = ad (f', i, j, k') := fun i hi f' j k' => by simp [mz_ap, mz_te, hi]
    apply mz_hb <;> first | (exact fun _ _ _ _ => Or.inl rfl) | skip
    · intro i j k' hq
      exact Or.inr (if_neg fun z => hq.2 (Or.inl (by rw [z.1, z.2.1, z.2.2])))
    · intro i j k' hq
      exact Or.inr (if_neg fun z => hq.2 (Or.inr (by rw [z.1, z.2.1, z.2.2])))
    · intro i j k' hq
      by_cases hz : i < n + 1 ∧ j = 0 ∧ k' = 0
      · have hin : i ≠ n := fun e => hq.1 (Or.inl (by rw [e, hz.2.1, hz.2.2]))
        left
        unfold mz_f6
        rw [if_pos hz, if_pos (show i < n ∧ j = 0 ∧ k' = 0 from ⟨by omega, hz.2⟩), e3' i hin, e4' i hin, va_up_ne _ _ hin, va_up_ne _ _ hin, ea i hin, ea i hin, ea i hin, ea i hin]
        rfl
      · exact Or.inr (if_neg hz)
    · intro i j k' hq
      by_cases hz : i < n + 1 ∧ j = 0 ∧ k' = 0
      · have hin : i ≠ n := fun e => hq.1 (Or.inr (Or.inl (by rw [e, hz.2.1, hz.2.2])))
        left
        unfold mz_f7
        rw [if_pos hz, if_pos (show i < n ∧ j = 0 ∧ k' = 0 from ⟨by omega, hz.2⟩)]
        rfl
      · exact Or.inr (if_neg hz)
    · intro i j k' hq
      by_cases hz : i < n + 1 ∧ j = 0 ∧ k' = 0
      · have hin : i ≠ n := fun e => hq.1 (Or.inr (Or.inr (Or.inl (by rw [e, hz.2.1, hz.2.2]))))
        left
        unfold mz_f8
        rw [if_pos hz, if_pos (show i < n ∧ j = 0 ∧ k' = 0 from ⟨by omega, hz.2⟩)]
        rfl
      · exact Or.inr (if_neg hz)
    · intro i j k' hq
      by_cases hz : i < n + 1 ∧ j = 0 ∧ k' = 0
      · have hin : i ≠ n := fun e => hq.1 (Or.inr (Or.inr (Or.inr (Or.inl (by rw [e, hz.2.1, hz.2.2])))))
        left
        unfold mz_f9
        rw [if_pos hz, if_pos (show i < n ∧ j = 0 ∧ k' = 0 from ⟨by omega, hz.2⟩), va_up_ne _ _ hin]
        simp only [ea i hin]
      · exact Or.inr (if_neg hz)
    · intro i j k' hq
      by_cases hz : i < n + 1 ∧ j = 0 ∧ k' = 0
      · have hin : i ≠ n := fun e => hq.1 (Or.inr (Or.inr (Or.inr (Or.inr (by rw [e, hz.2.1, hz.2.2])))))
        left
        unfold mz_f10
        rw [if_pos hz, if_pos (show i < n ∧ j = 0 ∧ k' = 0 from ⟨by omega, hz.2⟩)]
        rfl
      · exact Or.inr (if_neg hz)
    · intro i j k' hq
      by_cases hin : i = n
      · subst hin
        exact Or.inr (if_neg fun z => by rw [va_up_self] at z; omega)
      · left
        unfold mz_f11
        rw [va_up_ne _ _ hin]
        by_cases hz : i < n ∧ j < mk i ∧ k' = 0
        · rw [if_pos hz, if_pos (show i < n + 1 ∧ j < mk i ∧ k' = 0 from ⟨by omega, hz.2⟩)]
          rfl
        · rw [if_neg hz, if_neg (fun z => hz ⟨by omega, z.2⟩)]
end

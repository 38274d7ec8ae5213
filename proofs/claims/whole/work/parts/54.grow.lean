/-! new cells -/
theorem mz_hb {n m : Nat} {rs : mz_RS} {ad : mz_T → Nat} {lv : Nat → Int32} {mk : Nat → Nat} {mm : Nat → Nat → Nat × Nat} {gi : Nat → Nat → Nat → Int32} {go : Nat → Nat → Option Nat} {gj : Nat → Nat → Int64} {n' m' : Nat} {rs' : mz_RS} {ad' : mz_T → Nat} {lv' : Nat → Int32} {mk' : Nat → Nat} {mm' : Nat → Nat → Nat × Nat} {gi' : Nat → Nat → Nat → Int32} {go' : Nat → Nat → Option Nat} {gj' : Nat → Nat → Int64} {P : mz_T → Prop} (h1 : ∀ i j k, P (1, i, j, k) → mz_f1 n' m' rs' ad' lv' mk' mm' gi' go' gj' i j k = mz_f1 n m rs ad lv mk mm gi go gj i j k ∨ mz_f1 n' m' rs' ad' lv' mk' mm' gi' go' gj' i j k = none) (h2 : ∀ i j k, P (2, i, j, k) → mz_f2 n' m' rs' ad' lv' mk' mm' gi' go' gj' i j k = mz_f2 n m rs ad lv mk mm gi go gj i j k ∨ mz_f2 n' m' rs' ad' lv' mk' mm' gi' go' gj' i j k = none) (h3 : ∀ i j k, P (3, i, j, k) → mz_f3 n' m' rs' ad' lv' mk' mm' gi' go' gj' i j k = mz_f3 n m rs ad lv mk mm gi go gj i j k ∨ mz_f3 n' m' rs' ad' lv' mk' mm' gi' go' gj' i j k = none) (h4 : ∀ i j k, P (4, i, j, k) → mz_f4 n' m' rs' ad' lv' mk' mm' gi' go' gj' i j k = mz_f4 n m rs ad lv mk mm gi go gj i j k ∨ mz_f4 n' m' rs' ad' lv' mk' mm' gi' go' gj' i j k = none) (h5 : ∀ i j k, P (5, i, j, k) → mz_f5 n' m' rs' ad' lv' mk' mm' gi' go' gj' i j k = mz_f5 n m rs ad lv mk mm gi go gj i j k ∨ mz_f5 n' m' rs' ad' lv' mk' mm' gi' go' gj' i j k = none) (h6 : ∀ i j k, P (6, i, j, k) → mz_f6 n' m' rs' ad' lv' mk' mm' gi' go' gj' i j k = mz_f6 n m rs ad lv mk mm gi go gj i j k ∨ mz_f6 n' m' rs' ad' lv' mk' mm' gi' go' gj' i j k = none) (h7 : ∀ i j k, P (7, i, j, k) → mz_f7 n' m' rs' ad' lv' mk' mm' gi' go' gj' i j k = mz_f7 n m rs ad lv mk mm gi go gj i j k ∨ mz_f7 n' m' rs' ad' lv' mk' mm' gi' go' gj' i j k = none) (h8 : ∀ i j k, P (8, i, j, k) → mz_f8 n' m' rs' ad' lv' mk' mm' gi' go' gj' i j k = mz_f8 n m rs ad lv mk mm gi go gj i j k ∨ mz_f8 n' m' rs' ad' lv' mk' mm' gi' go' gj' i j k = none) (h9 : ∀ i j k, P (9, i, j, k) → mz_f9 n' m' rs' ad' lv' mk' mm' gi' go' gj' i j k = mz_f9 n m rs ad lv mk mm gi go gj i j k ∨ mz_f9 n' m' rs' ad' lv' mk' mm' gi' go' gj' i j k = none) (h10 : ∀ i j k, P (10, i, j, k) → mz_f10 n' m' rs' ad' lv' mk' mm' gi' go' gj' i j k = mz_f10 n m rs ad lv mk mm gi go gj i j k ∨ mz_f10 n' m' rs' ad' lv' mk' mm' gi' go' gj' i j k = none) (h11 : ∀ i j k, P (11, i, j, k) → mz_f11 n' m' rs' ad' lv' mk' mm' gi' go' gj' i j k = mz_f11 n m rs ad lv mk mm gi go gj i j k ∨ mz_f11 n' m' rs' ad' lv' mk' mm' gi' go' gj' i j k = none) (h12 : ∀ i j k, P (12, i, j, k) → mz_f12 n' m' rs' ad' lv' mk' mm' gi' go' gj' i j k = mz_f12 n m rs ad lv mk mm gi go gj i j k ∨ mz_f12 n' m' rs' ad' lv' mk' mm' gi' go' gj' i j k = none) (h13 : ∀ i j k, P (13, i, j, k) → mz_f13 n' m' rs' ad' lv' mk' mm' gi' go' gj' i j k = mz_f13 n m rs ad lv mk mm gi go gj i j k ∨ mz_f13 n' m' rs' ad' lv' mk' mm' gi' go' gj' i j k = none) (h14 : ∀ i j k, P (14, i, j, k) → mz_f14 n' m' rs' ad' lv' mk' mm' gi' go' gj' i j k = mz_f14 n m rs ad lv mk mm gi go gj i j k ∨ mz_f14 n' m' rs' ad' lv' mk' mm' gi' go' gj' i j k = none) (h15 : ∀ i j k, P (15, i, j, k) → mz_f15 n' m' rs' ad' lv' mk' mm' gi' go' gj' i j k = mz_f15 n m rs ad lv mk mm gi go gj i j k ∨ mz_f15 n' m' rs' ad' lv' mk' mm' gi' go' gj' i j k = none) (h16 : ∀ i j k, P (16, i, j, k) → mz_f16 n' m' rs' ad' lv' mk' mm' gi' go' gj' i j k = mz_f16 n m rs ad lv mk mm gi go gj i j k ∨ mz_f16 n' m' rs' ad' lv' mk' mm' gi' go' gj' i j k = none) (h17 : ∀ i j k, P (17, i, j, k) → mz_f17 n' m' rs' ad' lv' mk' mm' gi' go' gj' i j k = mz_f17 n m rs ad lv mk mm gi go gj i j k ∨ mz_f17 n' m' rs' ad' lv' mk' mm' gi' go' gj' i j k = none) (h18 : ∀ i j k, P (18, i, j, k) → mz_f18 n' m' rs' ad' lv' mk' mm' gi' go' gj' i j k = mz_f18 n m rs ad lv mk mm gi go gj i j k ∨ mz_f18 n' m' rs' ad' lv' mk' mm' gi' go' gj' i j k = none) (h19 : ∀ i j k, P (19, i, j, k) → mz_f19 n' m' rs' ad' lv' mk' mm' gi' go' gj' i j k = mz_f19 n m rs ad lv mk mm gi go gj i j k ∨ mz_f19 n' m' rs' ad' lv' mk' mm' gi' go' gj' i j k = none) (h20 : ∀ i j k, P (20, i, j, k) → mz_f20 n' m' rs' ad' lv' mk' mm' gi' go' gj' i j k = mz_f20 n m rs ad lv mk mm gi go gj i j k ∨ mz_f20 n' m' rs' ad' lv' mk' mm' gi' go' gj' i j k = none) (h21 : ∀ i j k, P (21, i, j, k) → mz_f21 n' m' rs' ad' lv' mk' mm' gi' go' gj' i j k = mz_f21 n m rs ad lv mk mm gi go gj i j k ∨ mz_f21 n' m' rs' ad' lv' mk' mm' gi' go' gj' i j k = none) (h22 : ∀ i j k, P (22, i, j, k) → mz_f22 n' m' rs' ad' lv' mk' mm' gi' go' gj' i j k = mz_f22 n m rs ad lv mk mm gi go gj i j k ∨ mz_f22 n' m' rs' ad' lv' mk' mm' gi' go' gj' i j k = none) (h23 : ∀ i j k, P (23, i, j, k) → mz_f23 n' m' rs' ad' lv' mk' mm' gi' go' gj' i j k = mz_f23 n m rs ad lv mk mm gi go gj i j k ∨ mz_f23 n' m' rs' ad' lv' mk' mm' gi' go' gj' i j k = none) (h24 : ∀ i j k, P (24, i, j, k) → mz_f24 n' m' rs' ad' lv' mk' mm' gi' go' gj' i j k = mz_f24 n m rs ad lv mk mm gi go gj i j k ∨ mz_f24 n' m' rs' ad' lv' mk' mm' gi' go' gj' i j k = none) (h25 : ∀ i j k, P (25, i, j, k) → mz_f25 n' m' rs' ad' lv' mk' mm' gi' go' gj' i j k = mz_f25 n m rs ad lv mk mm gi go gj i j k ∨ mz_f25 n' m' rs' ad' lv' mk' mm' gi' go' gj' i j k = none) (h26 : ∀ i j k, P (26, i, j, k) → mz_f26 n' m' rs' ad' lv' mk' mm' gi' go' gj' i j k = mz_f26 n m rs ad lv mk mm gi go gj i j k ∨ mz_f26 n' m' rs' ad' lv' mk' mm' gi' go' gj' i j k = none) (h27 : ∀ i j k, P (27, i, j, k) → mz_f27 n' m' rs' ad' lv' mk' mm' gi' go' gj' i j k = mz_f27 n m rs ad lv mk mm gi go gj i j k ∨ mz_f27 n' m' rs' ad' lv' mk' mm' gi' go' gj' i j k = none) (h28 : ∀ i j k, P (28, i, j, k) → mz_f28 n' m' rs' ad' lv' mk' mm' gi' go' gj' i j k = mz_f28 n m rs ad lv mk mm gi go gj i j k ∨ mz_f28 n' m' rs' ad' lv' mk' mm' gi' go' gj' i j k = none) (h29 : ∀ i j k, P (29, i, j, k) → mz_f29 n' m' rs' ad' lv' mk' mm' gi' go' gj' i j k = mz_f29 n m rs ad lv mk mm gi go gj i j k ∨ mz_f29 n' m' rs' ad' lv' mk' mm' gi' go' gj' i j k = none) : ∀ f i j k, P (f, i, j, k) → mz_fam n' m' rs' ad' lv' mk' mm' gi' go' gj' f i j k = mz_fam n m rs ad lv mk mm gi go gj f i j k ∨ mz_fam n' m' rs' ad' lv' mk' mm' gi' go' gj' f i j k = none
  | 0, _, _, _, _ => Or.inr rfl
  | 1, i, j, k, q => h1 i j k q
  | 2, i, j, k, q => h2 i j k q
  | 3, i, j, k, q => h3 i j k q
  | 4, i, j, k, q => h4 i j k q
  | 5, i, j, k, q => h5 i j k q
  | 6, i, j, k, q => h6 i j k q
  | 7, i, j, k, q => h7 i j k q
  | 8, i, j, k, q => h8 i j k q
  | 9, i, j, k, q => h9 i j k q
  | 10, i, j, k, q => h10 i j k q
  | 11, i, j, k, q => h11 i j k q
  | 12, i, j, k, q => h12 i j k q
  | 13, i, j, k, q => h13 i j k q
  | 14, i, j, k, q => h14 i j k q
  | 15, i, j, k, q => h15 i j k q
  | 16, i, j, k, q => h16 i j k q
  | 17, i, j, k, q => h17 i j k q
  | 18, i, j, k, q => h18 i j k q
  | 19, i, j, k, q => h19 i j k q
  | 20, i, j, k, q => h20 i j k q
  | 21, i, j, k, q => h21 i j k q
  | 22, i, j, k, q => h22 i j k q
  | 23, i, j, k, q => h23 i j k q
  | 24, i, j, k, q => h24 i j k q
  | 25, i, j, k, q => h25 i j k q
  | 26, i, j, k, q => h26 i j k q
  | 27, i, j, k, q => h27 i j k q
  | 28, i, j, k, q => h28 i j k q
  | 29, i, j, k, q => h29 i j k q
  | f + 30, _, _, _, _ => Or.inr rfl
def mz_ow (N C : mz_T → Prop) (t : mz_T) : Prop := ¬ N t ∧ ¬ C t
/-- new cells (tags N, addresses from h.2 on), and old ones that change (tags C) -/
theorem mz_Rp.bulk {VB : Nat} {n m : Nat} {rs : mz_RS} {ad : mz_T → Nat} {lv : Nat → Int32} {mk : Nat → Nat} {mm : Nat → Nat → Nat × Nat} {gi : Nat → Nat → Nat → Int32} {go : Nat → Nat → Option Nat} {gj : Nat → Nat → Int64} {n' m' : Nat} {rs' : mz_RS} {ad' : mz_T → Nat} {lv' : Nat → Int32} {mk' : Nat → Nat} {mm' : Nat → Nat → Nat × Nat} {gi' : Nat → Nat → Nat → Int32} {go' : Nat → Nat → Option Nat} {gj' : Nat → Nat → Int64} {h h' : mz_H} (hR : mz_Rp VB n m rs ad lv mk mm gi go gj h) (N C : mz_T → Prop) (z1 : h.2 ≤ h'.2) (z2 : h'.2 ≤ VB) (a1 : ∀ t, ¬ N t → ad' t = ad t) (a2 : ∀ t, N t → h.2 ≤ ad' t ∧ ad' t < h'.2) (a3 : ∀ t t', N t → N t' → ad' t = ad' t' → t = t')
    (o : ∀ a, a < h.2 → (∀ t, C t → a ≠ ad t) → h'.1 a = h.1 a) (c1 : ∀ f i j k e, N (f, i, j, k) → mz_fam n' m' rs' ad' lv' mk' mm' gi' go' gj' f i j k = some e → h'.1 (ad' (f, i, j, k)) = some e) (c2 : ∀ f i j k e, C (f, i, j, k) → ¬ N (f, i, j, k) → mz_fam n' m' rs' ad' lv' mk' mm' gi' go' gj' f i j k = some e → h'.1 (ad (f, i, j, k)) = some e ∧ ad (f, i, j, k) < h.2)
    (c3 : ∀ f i j k, mz_ow N C (f, i, j, k) → mz_fam n' m' rs' ad' lv' mk' mm' gi' go' gj' f i j k = mz_fam n m rs ad lv mk mm gi go gj f i j k ∨ mz_fam n' m' rs' ad' lv' mk' mm' gi' go' gj' f i j k = none) : mz_Rp VB n' m' rs' ad' lv' mk' mm' gi' go' gj' h' := by
  refine ⟨fun f i j k e he => ?_, fun t t' e => ?_, fun t => ?_, z2⟩
  · by_cases hN : N (f, i, j, k)
    · exact ⟨c1 f i j k e hN he, (a2 _ hN).2⟩
    · rw [a1 _ hN]
      by_cases hC : C (f, i, j, k)
      · obtain ⟨g1, g2⟩ := c2 f i j k e hC hN he
        exact ⟨g1, Nat.lt_of_lt_of_le g2 z1⟩
      · rcases c3 f i j k ⟨hN, hC⟩ with g | g
        · rw [g] at he
          obtain ⟨g1, g2⟩ := hR.1 f i j k e he
          refine ⟨?_, Nat.lt_of_lt_of_le g2 z1⟩
          rw [o _ g2 (fun t ht q => hC (by rw [hR.2.1 _ _ q]; exact ht))]
          exact g1
        · rw [g] at he
          cases he
  · by_cases h1 : N t
    · by_cases h2 : N t'
      · exact a3 t t' h1 h2 e
      · rw [a1 _ h2] at e
        have := a2 _ h1
        rcases hR.2.2.1 t' with q | q <;> omega
    · by_cases h2 : N t'
      · rw [a1 _ h1] at e
        have := a2 _ h2
        rcases hR.2.2.1 t with q | q <;> omega
      · rw [a1 _ h1, a1 _ h2] at e
        exact hR.2.1 _ _ e
  · by_cases h1 : N t
    · exact Or.inl (a2 _ h1).2
    · rw [a1 _ h1]
      rcases hR.2.2.1 t with q | q
      · exact Or.inl (Nat.lt_of_lt_of_le q z1)
      · exact Or.inr q
theorem nw_at (h : mz_H) (e : mz_E) : (mz_nw h e).1 h.2 = some e := if_pos rfl
theorem nw_old (h : mz_H) (e : mz_E) {a : Nat} (ha : a < h.2) : (mz_nw h e).1 a = h.1 a := if_neg (Nat.ne_of_lt ha)
theorem up_ne (h : mz_H) (e : mz_E) {a b : Nat} (ha : a ≠ b) : (mz_up h b e).1 a = h.1 a := if_neg ha
theorem zn_o {α : Type} (h : mz_H) (ci N : Nat) (fs : List Value) (K : Option Nat → mz_H → mz_Res α) : mz_oN h ci N fs K = mz_al 1 N (K (some h.2) (mz_nw h (.inr (ci, fs)))) := rfl
theorem zn_a {α : Type} (h : mz_H) (t : Nat) {j : Nat} (hj : j ≤ 1000000) (x : (Nat → Int32) ⊕ (Nat → Int64) ⊕ (Nat → UInt32) ⊕ (Nat → UInt64) ⊕ (Nat → Option Nat)) (K : Option Nat → mz_H → mz_Res α) : mz_aN h t (nI j) x K = mz_al 1 j (K (some h.2) (mz_nw h (.inl (t, j, x)))) := by
  have e : (nI j).toNatClampNeg = j := cl_nI (by omega)
  have d : decide (0 ≤ nI j ∧ (nI j).toNatClampNeg ≤ 1000000) = true := decide_eq_true ⟨nI_pos' (by omega), by rw [e]; exact hj⟩
  unfold mz_aN
  rw [d, zc_t, e]
/-- an array of ints is filled -/
theorem cs_fillI {a N : Nat} (hN : N < 1000) (v : Int32) : ∀ (d i f : Nat) (h : mz_H) (F : Nat → Int32), i + d = N → d < f → h.1 a = some (.inl (0, N, .inl F)) → ∃ h', fn_J_fillI_b5 f h (some a) v (nI i) (nI N) = some ((), h', 0, 0) ∧ h'.2 = h.2 ∧ (∀ b, b ≠ a → h'.1 b = h.1 b) ∧ h'.1 a = some (.inl (0, N, .inl (fun c => if i ≤ c ∧ c < N then v else F c))) := by
  intro d
  induction d with
  | zero =>
    intro i f h F hi hf hc
    obtain ⟨f, rfl⟩ : ∃ g', f = g' + 1 := ⟨f - 1, by omega⟩
    refine ⟨h, ?_, rfl, fun _ _ => rfl, ?_⟩
    · simp only [fn_J_fillI_b5, if_pos (nI_le (show N ≤ i by omega) (by omega)), zo_s, zc_t, zl_0, zr_e, z_0, z_1, if_true]
    · rw [hc]
      have e : F = fun c => if i ≤ c ∧ c < N then v else F c := funext fun c => (if_neg (by omega)).symm
      rw [← e]
  | succ d ih =>
    intro i f h F hi hf hc
    obtain ⟨f, rfl⟩ : ∃ g', f = g' + 1 := ⟨f - 1, by omega⟩
    obtain ⟨h', e', s', o', c'⟩ := ih (i + 1) f (mz_up h a (.inl (0, N, .inl (upd F i v)))) (upd F i v) (by omega) (by omega) (up_at _ _ _)
    rw [show nI (i + 1) = nI i + 1 from (nI_add i 1).symm] at e'
    refine ⟨h', ?_, s', fun b hb => (o' b hb).trans (up_ne _ _ hb), ?_⟩
    · simp only [fn_J_fillI_b5, if_neg (nI_ge (show i < N by omega) (by omega)), sI_of hc (ix_nI (show i < N by omega) (by omega)), cl_nI (show i < 2 ^ 31 by omega), e', zo_s]
    · rw [c']
      have e : (fun c => if i + 1 ≤ c ∧ c < N then v else upd F i v c) = (fun c => if i ≤ c ∧ c < N then v else F c) := funext fun c => by
        by_cases hci : c = i
        · subst hci
          rw [if_neg (by omega), if_pos (by omega)]
          exact pk_us
        · rw [pk_un hci]
          by_cases hq : i ≤ c ∧ c < N
          · rw [if_pos hq, if_pos (by omega)]
          · rw [if_neg hq, if_neg (by omega)]
      rw [e]
theorem cs_fillJ {a N : Nat} (hN : N < 1000) (v : Int64) : ∀ (d i f : Nat) (h : mz_H) (F : Nat → Int64), i + d = N → d < f → h.1 a = some (.inl (1, N, .inr (.inl F))) → ∃ h', fn_J_fillJ_b6 f h (some a) v (nI i) (nI N) = some ((), h', 0, 0) ∧ h'.2 = h.2 ∧ (∀ b, b ≠ a → h'.1 b = h.1 b) ∧ h'.1 a = some (.inl (1, N, .inr (.inl (fun c => if i ≤ c ∧ c < N then v else F c)))) := by
  intro d
  induction d with
  | zero =>
    intro i f h F hi hf hc
    obtain ⟨f, rfl⟩ : ∃ g', f = g' + 1 := ⟨f - 1, by omega⟩
    refine ⟨h, ?_, rfl, fun _ _ => rfl, ?_⟩
    · simp only [fn_J_fillJ_b6, if_pos (nI_le (show N ≤ i by omega) (by omega)), zo_s, zc_t, zl_0, zr_e, z_0, z_1, if_true]
    · rw [hc]
      have e : F = fun c => if i ≤ c ∧ c < N then v else F c := funext fun c => (if_neg (by omega)).symm
      rw [← e]
  | succ d ih =>
    intro i f h F hi hf hc
    obtain ⟨f, rfl⟩ : ∃ g', f = g' + 1 := ⟨f - 1, by omega⟩
    obtain ⟨h', e', s', o', c'⟩ := ih (i + 1) f (mz_up h a (.inl (1, N, .inr (.inl (vp_updL F i v))))) (vp_updL F i v) (by omega) (by omega) (up_at _ _ _)
    rw [show nI (i + 1) = nI i + 1 from (nI_add i 1).symm] at e'
    refine ⟨h', ?_, s', fun b hb => (o' b hb).trans (up_ne _ _ hb), ?_⟩
    · simp only [fn_J_fillJ_b6, if_neg (nI_ge (show i < N by omega) (by omega)), sJ_of hc (ix_nI (show i < N by omega) (by omega)), cl_nI (show i < 2 ^ 31 by omega), e', zo_s]
    · rw [c']
      have e : (fun c => if i + 1 ≤ c ∧ c < N then v else vp_updL F i v c) = (fun c => if i ≤ c ∧ c < N then v else F c) := funext fun c => by
        by_cases hci : c = i
        · subst hci
          rw [if_neg (by omega), if_pos (by omega)]
          exact pk_uLs
        · rw [pk_uLn hci]
          by_cases hq : i ≤ c ∧ c < N
          · rw [if_pos hq, if_pos (by omega)]
          · rw [if_neg hq, if_neg (by omega)]
      rw [e]
theorem is_of {h : mz_H} {a ci : Nat} {fs : List Value} (hc : h.1 a = some (.inr (ci, fs))) : mz_is h (some a) ci = true := by simp [mz_is, hc]
theorem len_of {h : mz_H} {a t N : Nat} {x : (Nat → Int32) ⊕ (Nat → Int64) ⊕ (Nat → UInt32) ⊕ (Nat → UInt64) ⊕ (Nat → Option Nat)} (hc : h.1 a = some (.inl (t, N, x))) : mz_len h (some a) t = some (nI N) := by simp only [mz_len, mz_ar, hc, if_true]; rfl
theorem fR_of {h : mz_H} {a ci k : Nat} {fs : List Value} {r : Option Nat} (hc : h.1 a = some (.inr (ci, fs))) (hk : fs[k]? = some (va_rf r)) : mz_fR h (some a) ci k = some r := mz_fR_of (by simp only [mz_fv, hc, if_true, hk])
theorem fI_of {h : mz_H} {a ci k : Nat} {fs : List Value} {v : Int32} (hc : h.1 a = some (.inr (ci, fs))) (hk : fs[k]? = some (.int v)) : mz_fI h (some a) ci k = some v := by simp only [mz_fI, mz_fv, hc, if_true, hk]
/-! column -/
theorem mz_Rp.gq {VB : Nat} {n m : Nat} {rs : mz_RS} {ad : mz_T → Nat} {lv : Nat → Int32} {mk : Nat → Nat} {mm : Nat → Nat → Nat × Nat} {gi : Nat → Nat → Nat → Int32} {go : Nat → Nat → Option Nat} {gj : Nat → Nat → Int64} {h : mz_H} (hR : mz_Rp VB n m rs ad lv mk mm gi go gj h) : mz_Rp VB n m rs ad lv mk mm (mz_gw (mz_gq gi (gi 4 0 0) (gi 4 1 0) (gi 4 2 0)) (gi 0 0 0) (fun i => gi 5 i 0) (fun i => gi 6 i 0)) go (mz_gk gj (gj 1)) h := by
  refine hR.same ?_
  apply mz_hq <;> first | (exact fun _ _ _ => Or.inl rfl) | (intro _ _ _; left; apply keep15g <;> exact fun _ _ => rfl) | skip
  intro i j k
  by_cases hq : i < 2 ∧ j = 0 ∧ k = 0
  · left
    obtain ⟨hi, rfl, rfl⟩ := hq
    rcases (show i = 0 ∨ i = 1 by omega) with rfl | rfl <;> rfl
  · exact Or.inr (if_neg hq)
theorem k_column {VB o q l : Nat} {rs : mz_RS} {h : mz_H} (H : mz_In VB o (l + 1) rs h) (x k z : Int32) : mz_Ok VB o q l rs (fun h => fn_X11_column h (some o) x k z) (fun h => fn_X12_column h (some q) x k z) h := by
  refine ok_flt H (fun _ => rfl) (fun _ => rfl) (fun h1 H1 => ?_)
  clear H
  revert H1
  generalize mz_si rs 0 0 = rs
  clear h
  intro H
  generalize h1 = h at H ⊢
  obtain ⟨n, m, ad, lv, mk, mm, gi, go, gj, hR, w⟩ := id H
  obtain ⟨wc, wm, wo, wt, wl, wq, wa, wv⟩ := id w
  obtain rfl : ad (1, 0, 0, 0) = o := wa
  have hn40 := wc.1
  have hm60 := wo.1
  rcases mz_no x (show n < 2 ^ 31 by omega) with hx | ⟨c, hc, rfl⟩
  · exact mz_Ok.same H (-1) (by simp only [cg_1_0 hR, ci_2 hR, cs_typeOf_no hR hx, zo_s, zc_t, zl_0, zr_e, z_0, z_1, if_true]) (by simp only [mz_RH_is, rs_isClass_no q h.2 wc.2.1 hx, zo_s, zc_t, zl_0, zr_e, z_0, z_1, if_true])
  have RC := fun sz => rs_isClass (rs := rs) q sz wc.2.1 wc.1 hc
  have e3 : (31 ≤ k) ↔ (30 < k) := by
    rw [Int32.le_iff_toInt_le, Int32.lt_iff_toInt_lt]
    show (31 : Int) ≤ _ ↔ (30 : Int) < _
    omega
  by_cases c1 : k < 0
  · exact mz_Ok.same H (-2) (by simp only [cg_1_0 hR, ci_2 hR, cs_typeOf hR wc.1 hc, if_neg smn, cs_isName, if_pos c1, zo_s, zc_t, zl_0, zr_e, z_0, z_1, if_true]) (by simp only [mz_RH_is, RC, if_neg one0, rs_within, if_pos c1, zo_s, zc_t, zl_0, zr_e, z_0, z_1, if_true])
  by_cases c2 : 30 < k
  · exact mz_Ok.same H (-2) (by simp only [cg_1_0 hR, ci_2 hR, cs_typeOf hR wc.1 hc, if_neg smn, cs_isName, if_neg c1, if_pos (e3.mpr c2), zo_s, zc_t, zl_0, zr_e, z_0, z_1, if_true]) (by simp only [mz_RH_is, RC, if_neg one0, rs_within, if_neg c1, if_pos c2, zo_s, zc_t, zl_0, zr_e, z_0, z_1, if_true])
  have c2' : ¬ 31 ≤ k := fun q => c2 (e3.mp q)
  by_cases c3 : z < 0
  · exact mz_Ok.same H (-2) (by simp only [cg_1_0 hR, ci_2 hR, cs_typeOf hR wc.1 hc, if_neg smn, cs_isName, if_neg c1, if_neg c2', if_neg one0, cs_isLane, if_pos c3, zo_s, zc_t, zl_0, zr_e, z_0, z_1, if_true]) (by simp only [mz_RH_is, RC, if_neg one0, rs_within, if_neg c1, if_neg c2, if_pos c3, zo_s, zc_t, zl_0, zr_e, z_0, z_1, if_true])
  by_cases c4 : 7 < z
  · exact mz_Ok.same H (-2) (by simp only [cg_1_0 hR, ci_2 hR, cs_typeOf hR wc.1 hc, if_neg smn, cs_isName, if_neg c1, if_neg c2', if_neg one0, cs_isLane, if_neg c3, if_pos c4, zo_s, zc_t, zl_0, zr_e, z_0, z_1, if_true]) (by simp only [mz_RH_is, RC, if_neg one0, rs_within, if_neg c1, if_neg c2, if_neg c3, if_pos c4, zo_s, zc_t, zl_0, zr_e, z_0, z_1, if_true])
  obtain ⟨ln, hln, rfl⟩ : ∃ i : Nat, i < 8 ∧ z = nI i := by
    rcases pk_ix z (show 8 < 2 ^ 31 by omega) with q | q | q
    · exact absurd q c3
    · exact absurd (Int32.lt_of_lt_of_le (by decide) q) c4
    · exact q
  obtain ⟨h1, k1, R1, s1⟩ := cs_begin hR.gq (nI ln)
  obtain ⟨r, h2, rs', I1, I2, I3, I4, I5⟩ := ok_col (l := l) ⟨wc, wm, wo, wt, wl, wq⟩ q h.2 wv hc hln k m 0 1001 1001 0 h1 _ _ _ (gj 1) (rs.1 17) (rs.2.1 16) (rs.2.1 18) (rs.2.1 19) (rs.2.2 48) (by omega) (by omega) (by omega) (by omega) R1 s1 (fun t ht => absurd ht (by omega))
  have e0 : mz_wy (mz_q8 rs (rs.2.2 47) (rs.2.2 48)) (rs.1 17) (rs.2.1 16) (rs.2.1 18) (rs.2.1 19) = rs := ((q8_id rs).trans (wy_id (mz_q8 rs (rs.2.2 47) (rs.2.2 48)))).symm
  rw [e0] at I2
  refine ⟨r, h2, 0, 0, rs', ?_, ?_, I3, Nat.le_of_eq I4.symm, ?_, by omega, by omega⟩
  · simp only [cg_1_0 hR, ci_2 hR, cs_typeOf hR wc.1 hc, if_neg smn, cs_isName, if_neg c1, if_neg c2', if_neg one0, cs_isLane, if_neg c3, if_neg c4, cg_1_6 hR, ci_25 hR (show 1 < 2 by omega), k1, zo_s, zc_t, zl_0]
    exact I1
  · rw [I4]
    simp only [mz_RH_is, RC, if_neg one0, rs_within, if_neg c1, if_neg c2, if_neg c3, if_neg c4, zc_t, zl_0]
    exact I2
  · rw [I5]
    exact Nat.le_refl _

/-! latest and next change places -/
def mz_sw (i : Nat) : Nat := if i = 0 then 1 else if i = 1 then 0 else i
def mz_sg (s : Nat → Bool) (t : mz_T) : mz_T := (t.1, if s t.1 then mz_sw t.2.1 else t.2.1, t.2.2.1, t.2.2.2)
theorem sw_sw (i : Nat) : mz_sw (mz_sw i) = i := by
  unfold mz_sw
  by_cases h0 : i = 0
  · subst h0; rfl
  · by_cases h1 : i = 1
    · subst h1; rfl
    · simp [h0, h1]
theorem sg_sg (s : Nat → Bool) (t : mz_T) : mz_sg s (mz_sg s t) = t := by
  obtain ⟨f, i, j, k⟩ := t
  show (f, (if s f then mz_sw (if s f then mz_sw i else i) else (if s f then mz_sw i else i)), j, k) = (f, i, j, k)
  cases h : s f
  · rfl
  · simp only [if_true, sw_sw]
theorem mz_Rp.pup {VB : Nat} {n m : Nat} {rs : mz_RS} {ad : mz_T → Nat} {lv : Nat → Int32} {mk : Nat → Nat} {mm : Nat → Nat → Nat × Nat} {gi : Nat → Nat → Nat → Int32} {go : Nat → Nat → Option Nat} {gj : Nat → Nat → Int64} {n' m' : Nat} {rs' : mz_RS} {lv' : Nat → Int32} {mk' : Nat → Nat} {mm' : Nat → Nat → Nat × Nat} {gi' : Nat → Nat → Nat → Int32} {go' : Nat → Nat → Option Nat} {gj' : Nat → Nat → Int64} {h : mz_H} (hR : mz_Rp VB n m rs ad lv mk mm gi go gj h) (s : Nat → Bool) (s1 : s 1 = false) {e : mz_E} (he : mz_fam n' m' rs' (fun t => ad (mz_sg s t)) lv' mk' mm' gi' go' gj' 1 0 0 0 = some e) (hl : ad (1, 0, 0, 0) < h.2)
    (hs : ∀ f i j k, ¬ (f = 1 ∧ i = 0 ∧ j = 0 ∧ k = 0) → mz_fam n' m' rs' (fun t => ad (mz_sg s t)) lv' mk' mm' gi' go' gj' f i j k = mz_fam n m rs ad lv mk mm gi go gj f (if s f then mz_sw i else i) j k ∨ mz_fam n' m' rs' (fun t => ad (mz_sg s t)) lv' mk' mm' gi' go' gj' f i j k = none) : mz_Rp VB n' m' rs' (fun t => ad (mz_sg s t)) lv' mk' mm' gi' go' gj' (mz_up h (ad (1, 0, 0, 0)) e) := by
  refine ⟨fun f i j k x hx => ?_, fun t t' ht => ?_, fun t => hR.2.2.1 _, hR.2.2.2⟩
  · by_cases ht : f = 1 ∧ i = 0 ∧ j = 0 ∧ k = 0
    · obtain ⟨rfl, rfl, rfl, rfl⟩ := ht
      rw [he] at hx
      cases hx
      have e0 : mz_sg s (1, 0, 0, 0) = (1, 0, 0, 0) := by
        show (1, (if s 1 then mz_sw 0 else 0), 0, 0) = _
        rw [s1]
        rfl
      refine ⟨?_, ?_⟩
      · show (mz_up h (ad (1, 0, 0, 0)) e).1 (ad (mz_sg s (1, 0, 0, 0))) = some e
        rw [e0]
        exact up_at _ _ _
      · show ad (mz_sg s (1, 0, 0, 0)) < h.2
        rw [e0]
        exact hl
    · rcases hs f i j k ht with h1 | h1
      · rw [h1] at hx
        obtain ⟨g1, g2⟩ := hR.1 _ _ _ _ _ hx
        refine ⟨?_, g2⟩
        show (if ad (mz_sg s (f, i, j, k)) = ad (1, 0, 0, 0) then some e else h.1 (ad (mz_sg s (f, i, j, k)))) = some x
        rw [if_neg]
        · exact g1
        · intro hq
          have := hR.2.1 _ _ hq
          apply ht
          have e1 : f = 1 := congrArg (fun t : mz_T => t.1) this
          have e2 : (if s f then mz_sw i else i) = 0 := congrArg (fun t : mz_T => t.2.1) this
          have e3 : j = 0 := congrArg (fun t : mz_T => t.2.2.1) this
          have e4 : k = 0 := congrArg (fun t : mz_T => t.2.2.2) this
          rw [e1, s1] at e2
          exact ⟨e1, e2, e3, e4⟩
      · rw [h1] at hx
        cases hx
  · have := hR.2.1 _ _ ht
    have h2 := congrArg (mz_sg s) this
    rw [sg_sg, sg_sg] at h2
    exact h2
theorem mz_hp {n m : Nat} {rs : mz_RS} {ad : mz_T → Nat} {lv : Nat → Int32} {mk : Nat → Nat} {mm : Nat → Nat → Nat × Nat} {gi : Nat → Nat → Nat → Int32} {go : Nat → Nat → Option Nat} {gj : Nat → Nat → Int64} {n' m' : Nat} {rs' : mz_RS} {lv' : Nat → Int32} {mk' : Nat → Nat} {mm' : Nat → Nat → Nat × Nat} {gi' : Nat → Nat → Nat → Int32} {go' : Nat → Nat → Option Nat} {gj' : Nat → Nat → Int64} {s : Nat → Bool} (h1 : ∀ i j k, ¬ (1 = 1 ∧ i = 0 ∧ j = 0 ∧ k = 0) → mz_f1 n' m' rs' (fun t => ad (mz_sg s t)) lv' mk' mm' gi' go' gj' i j k = mz_f1 n m rs ad lv mk mm gi go gj (if s 1 then mz_sw i else i) j k ∨ mz_f1 n' m' rs' (fun t => ad (mz_sg s t)) lv' mk' mm' gi' go' gj' i j k = none) (h2 : ∀ i j k, ¬ (2 = 1 ∧ i = 0 ∧ j = 0 ∧ k = 0) → mz_f2 n' m' rs' (fun t => ad (mz_sg s t)) lv' mk' mm' gi' go' gj' i j k = mz_f2 n m rs ad lv mk mm gi go gj (if s 2 then mz_sw i else i) j k ∨ mz_f2 n' m' rs' (fun t => ad (mz_sg s t)) lv' mk' mm' gi' go' gj' i j k = none) (h3 : ∀ i j k, ¬ (3 = 1 ∧ i = 0 ∧ j = 0 ∧ k = 0) → mz_f3 n' m' rs' (fun t => ad (mz_sg s t)) lv' mk' mm' gi' go' gj' i j k = mz_f3 n m rs ad lv mk mm gi go gj (if s 3 then mz_sw i else i) j k ∨ mz_f3 n' m' rs' (fun t => ad (mz_sg s t)) lv' mk' mm' gi' go' gj' i j k = none) (h4 : ∀ i j k, ¬ (4 = 1 ∧ i = 0 ∧ j = 0 ∧ k = 0) → mz_f4 n' m' rs' (fun t => ad (mz_sg s t)) lv' mk' mm' gi' go' gj' i j k = mz_f4 n m rs ad lv mk mm gi go gj (if s 4 then mz_sw i else i) j k ∨ mz_f4 n' m' rs' (fun t => ad (mz_sg s t)) lv' mk' mm' gi' go' gj' i j k = none) (h5 : ∀ i j k, ¬ (5 = 1 ∧ i = 0 ∧ j = 0 ∧ k = 0) → mz_f5 n' m' rs' (fun t => ad (mz_sg s t)) lv' mk' mm' gi' go' gj' i j k = mz_f5 n m rs ad lv mk mm gi go gj (if s 5 then mz_sw i else i) j k ∨ mz_f5 n' m' rs' (fun t => ad (mz_sg s t)) lv' mk' mm' gi' go' gj' i j k = none) (h6 : ∀ i j k, ¬ (6 = 1 ∧ i = 0 ∧ j = 0 ∧ k = 0) → mz_f6 n' m' rs' (fun t => ad (mz_sg s t)) lv' mk' mm' gi' go' gj' i j k = mz_f6 n m rs ad lv mk mm gi go gj (if s 6 then mz_sw i else i) j k ∨ mz_f6 n' m' rs' (fun t => ad (mz_sg s t)) lv' mk' mm' gi' go' gj' i j k = none) (h7 : ∀ i j k, ¬ (7 = 1 ∧ i = 0 ∧ j = 0 ∧ k = 0) → mz_f7 n' m' rs' (fun t => ad (mz_sg s t)) lv' mk' mm' gi' go' gj' i j k = mz_f7 n m rs ad lv mk mm gi go gj (if s 7 then mz_sw i else i) j k ∨ mz_f7 n' m' rs' (fun t => ad (mz_sg s t)) lv' mk' mm' gi' go' gj' i j k = none) (h8 : ∀ i j k, ¬ (8 = 1 ∧ i = 0 ∧ j = 0 ∧ k = 0) → mz_f8 n' m' rs' (fun t => ad (mz_sg s t)) lv' mk' mm' gi' go' gj' i j k = mz_f8 n m rs ad lv mk mm gi go gj (if s 8 then mz_sw i else i) j k ∨ mz_f8 n' m' rs' (fun t => ad (mz_sg s t)) lv' mk' mm' gi' go' gj' i j k = none) (h9 : ∀ i j k, ¬ (9 = 1 ∧ i = 0 ∧ j = 0 ∧ k = 0) → mz_f9 n' m' rs' (fun t => ad (mz_sg s t)) lv' mk' mm' gi' go' gj' i j k = mz_f9 n m rs ad lv mk mm gi go gj (if s 9 then mz_sw i else i) j k ∨ mz_f9 n' m' rs' (fun t => ad (mz_sg s t)) lv' mk' mm' gi' go' gj' i j k = none) (h10 : ∀ i j k, ¬ (10 = 1 ∧ i = 0 ∧ j = 0 ∧ k = 0) → mz_f10 n' m' rs' (fun t => ad (mz_sg s t)) lv' mk' mm' gi' go' gj' i j k = mz_f10 n m rs ad lv mk mm gi go gj (if s 10 then mz_sw i else i) j k ∨ mz_f10 n' m' rs' (fun t => ad (mz_sg s t)) lv' mk' mm' gi' go' gj' i j k = none) (h11 : ∀ i j k, ¬ (11 = 1 ∧ i = 0 ∧ j = 0 ∧ k = 0) → mz_f11 n' m' rs' (fun t => ad (mz_sg s t)) lv' mk' mm' gi' go' gj' i j k = mz_f11 n m rs ad lv mk mm gi go gj (if s 11 then mz_sw i else i) j k ∨ mz_f11 n' m' rs' (fun t => ad (mz_sg s t)) lv' mk' mm' gi' go' gj' i j k = none) (h12 : ∀ i j k, ¬ (12 = 1 ∧ i = 0 ∧ j = 0 ∧ k = 0) → mz_f12 n' m' rs' (fun t => ad (mz_sg s t)) lv' mk' mm' gi' go' gj' i j k = mz_f12 n m rs ad lv mk mm gi go gj (if s 12 then mz_sw i else i) j k ∨ mz_f12 n' m' rs' (fun t => ad (mz_sg s t)) lv' mk' mm' gi' go' gj' i j k = none) (h13 : ∀ i j k, ¬ (13 = 1 ∧ i = 0 ∧ j = 0 ∧ k = 0) → mz_f13 n' m' rs' (fun t => ad (mz_sg s t)) lv' mk' mm' gi' go' gj' i j k = mz_f13 n m rs ad lv mk mm gi go gj (if s 13 then mz_sw i else i) j k ∨ mz_f13 n' m' rs' (fun t => ad (mz_sg s t)) lv' mk' mm' gi' go' gj' i j k = none) (h14 : ∀ i j k, ¬ (14 = 1 ∧ i = 0 ∧ j = 0 ∧ k = 0) → mz_f14 n' m' rs' (fun t => ad (mz_sg s t)) lv' mk' mm' gi' go' gj' i j k = mz_f14 n m rs ad lv mk mm gi go gj (if s 14 then mz_sw i else i) j k ∨ mz_f14 n' m' rs' (fun t => ad (mz_sg s t)) lv' mk' mm' gi' go' gj' i j k = none) (h15 : ∀ i j k, ¬ (15 = 1 ∧ i = 0 ∧ j = 0 ∧ k = 0) → mz_f15 n' m' rs' (fun t => ad (mz_sg s t)) lv' mk' mm' gi' go' gj' i j k = mz_f15 n m rs ad lv mk mm gi go gj (if s 15 then mz_sw i else i) j k ∨ mz_f15 n' m' rs' (fun t => ad (mz_sg s t)) lv' mk' mm' gi' go' gj' i j k = none) (h16 : ∀ i j k, ¬ (16 = 1 ∧ i = 0 ∧ j = 0 ∧ k = 0) → mz_f16 n' m' rs' (fun t => ad (mz_sg s t)) lv' mk' mm' gi' go' gj' i j k = mz_f16 n m rs ad lv mk mm gi go gj (if s 16 then mz_sw i else i) j k ∨ mz_f16 n' m' rs' (fun t => ad (mz_sg s t)) lv' mk' mm' gi' go' gj' i j k = none) (h17 : ∀ i j k, ¬ (17 = 1 ∧ i = 0 ∧ j = 0 ∧ k = 0) → mz_f17 n' m' rs' (fun t => ad (mz_sg s t)) lv' mk' mm' gi' go' gj' i j k = mz_f17 n m rs ad lv mk mm gi go gj (if s 17 then mz_sw i else i) j k ∨ mz_f17 n' m' rs' (fun t => ad (mz_sg s t)) lv' mk' mm' gi' go' gj' i j k = none) (h18 : ∀ i j k, ¬ (18 = 1 ∧ i = 0 ∧ j = 0 ∧ k = 0) → mz_f18 n' m' rs' (fun t => ad (mz_sg s t)) lv' mk' mm' gi' go' gj' i j k = mz_f18 n m rs ad lv mk mm gi go gj (if s 18 then mz_sw i else i) j k ∨ mz_f18 n' m' rs' (fun t => ad (mz_sg s t)) lv' mk' mm' gi' go' gj' i j k = none) (h19 : ∀ i j k, ¬ (19 = 1 ∧ i = 0 ∧ j = 0 ∧ k = 0) → mz_f19 n' m' rs' (fun t => ad (mz_sg s t)) lv' mk' mm' gi' go' gj' i j k = mz_f19 n m rs ad lv mk mm gi go gj (if s 19 then mz_sw i else i) j k ∨ mz_f19 n' m' rs' (fun t => ad (mz_sg s t)) lv' mk' mm' gi' go' gj' i j k = none) (h20 : ∀ i j k, ¬ (20 = 1 ∧ i = 0 ∧ j = 0 ∧ k = 0) → mz_f20 n' m' rs' (fun t => ad (mz_sg s t)) lv' mk' mm' gi' go' gj' i j k = mz_f20 n m rs ad lv mk mm gi go gj (if s 20 then mz_sw i else i) j k ∨ mz_f20 n' m' rs' (fun t => ad (mz_sg s t)) lv' mk' mm' gi' go' gj' i j k = none) (h21 : ∀ i j k, ¬ (21 = 1 ∧ i = 0 ∧ j = 0 ∧ k = 0) → mz_f21 n' m' rs' (fun t => ad (mz_sg s t)) lv' mk' mm' gi' go' gj' i j k = mz_f21 n m rs ad lv mk mm gi go gj (if s 21 then mz_sw i else i) j k ∨ mz_f21 n' m' rs' (fun t => ad (mz_sg s t)) lv' mk' mm' gi' go' gj' i j k = none) (h22 : ∀ i j k, ¬ (22 = 1 ∧ i = 0 ∧ j = 0 ∧ k = 0) → mz_f22 n' m' rs' (fun t => ad (mz_sg s t)) lv' mk' mm' gi' go' gj' i j k = mz_f22 n m rs ad lv mk mm gi go gj (if s 22 then mz_sw i else i) j k ∨ mz_f22 n' m' rs' (fun t => ad (mz_sg s t)) lv' mk' mm' gi' go' gj' i j k = none) (h23 : ∀ i j k, ¬ (23 = 1 ∧ i = 0 ∧ j = 0 ∧ k = 0) → mz_f23 n' m' rs' (fun t => ad (mz_sg s t)) lv' mk' mm' gi' go' gj' i j k = mz_f23 n m rs ad lv mk mm gi go gj (if s 23 then mz_sw i else i) j k ∨ mz_f23 n' m' rs' (fun t => ad (mz_sg s t)) lv' mk' mm' gi' go' gj' i j k = none) (h24 : ∀ i j k, ¬ (24 = 1 ∧ i = 0 ∧ j = 0 ∧ k = 0) → mz_f24 n' m' rs' (fun t => ad (mz_sg s t)) lv' mk' mm' gi' go' gj' i j k = mz_f24 n m rs ad lv mk mm gi go gj (if s 24 then mz_sw i else i) j k ∨ mz_f24 n' m' rs' (fun t => ad (mz_sg s t)) lv' mk' mm' gi' go' gj' i j k = none) (h25 : ∀ i j k, ¬ (25 = 1 ∧ i = 0 ∧ j = 0 ∧ k = 0) → mz_f25 n' m' rs' (fun t => ad (mz_sg s t)) lv' mk' mm' gi' go' gj' i j k = mz_f25 n m rs ad lv mk mm gi go gj (if s 25 then mz_sw i else i) j k ∨ mz_f25 n' m' rs' (fun t => ad (mz_sg s t)) lv' mk' mm' gi' go' gj' i j k = none) (h26 : ∀ i j k, ¬ (26 = 1 ∧ i = 0 ∧ j = 0 ∧ k = 0) → mz_f26 n' m' rs' (fun t => ad (mz_sg s t)) lv' mk' mm' gi' go' gj' i j k = mz_f26 n m rs ad lv mk mm gi go gj (if s 26 then mz_sw i else i) j k ∨ mz_f26 n' m' rs' (fun t => ad (mz_sg s t)) lv' mk' mm' gi' go' gj' i j k = none) (h27 : ∀ i j k, ¬ (27 = 1 ∧ i = 0 ∧ j = 0 ∧ k = 0) → mz_f27 n' m' rs' (fun t => ad (mz_sg s t)) lv' mk' mm' gi' go' gj' i j k = mz_f27 n m rs ad lv mk mm gi go gj (if s 27 then mz_sw i else i) j k ∨ mz_f27 n' m' rs' (fun t => ad (mz_sg s t)) lv' mk' mm' gi' go' gj' i j k = none) (h28 : ∀ i j k, ¬ (28 = 1 ∧ i = 0 ∧ j = 0 ∧ k = 0) → mz_f28 n' m' rs' (fun t => ad (mz_sg s t)) lv' mk' mm' gi' go' gj' i j k = mz_f28 n m rs ad lv mk mm gi go gj (if s 28 then mz_sw i else i) j k ∨ mz_f28 n' m' rs' (fun t => ad (mz_sg s t)) lv' mk' mm' gi' go' gj' i j k = none) (h29 : ∀ i j k, ¬ (29 = 1 ∧ i = 0 ∧ j = 0 ∧ k = 0) → mz_f29 n' m' rs' (fun t => ad (mz_sg s t)) lv' mk' mm' gi' go' gj' i j k = mz_f29 n m rs ad lv mk mm gi go gj (if s 29 then mz_sw i else i) j k ∨ mz_f29 n' m' rs' (fun t => ad (mz_sg s t)) lv' mk' mm' gi' go' gj' i j k = none) : ∀ f i j k, ¬ (f = 1 ∧ i = 0 ∧ j = 0 ∧ k = 0) → mz_fam n' m' rs' (fun t => ad (mz_sg s t)) lv' mk' mm' gi' go' gj' f i j k = mz_fam n m rs ad lv mk mm gi go gj f (if s f then mz_sw i else i) j k ∨ mz_fam n' m' rs' (fun t => ad (mz_sg s t)) lv' mk' mm' gi' go' gj' f i j k = none
  | 0, _, _, _, _ => Or.inr rfl
  | 1, i, j, k, q => h1 i j k q
  | 2, i, j, k, q => h2 i j k q
  | 3, i, j, k, q => h3 i j k q
  | 4, i, j, k, q => h4 i j k q
  | 5, i, j, k, q => h5 i j k q
  | 6, i, j, k, q => h6 i j k q
  | 7, i, j, k, q => h7 i j k q
  | 8, i, j, k, q => h8 i j k q
  | 9, i, j, k, q => h9 i j k q
  | 10, i, j, k, q => h10 i j k q
  | 11, i, j, k, q => h11 i j k q
  | 12, i, j, k, q => h12 i j k q
  | 13, i, j, k, q => h13 i j k q
  | 14, i, j, k, q => h14 i j k q
  | 15, i, j, k, q => h15 i j k q
  | 16, i, j, k, q => h16 i j k q
  | 17, i, j, k, q => h17 i j k q
  | 18, i, j, k, q => h18 i j k q
  | 19, i, j, k, q => h19 i j k q
  | 20, i, j, k, q => h20 i j k q
  | 21, i, j, k, q => h21 i j k q
  | 22, i, j, k, q => h22 i j k q
  | 23, i, j, k, q => h23 i j k q
  | 24, i, j, k, q => h24 i j k q
  | 25, i, j, k, q => h25 i j k q
  | 26, i, j, k, q => h26 i j k q
  | 27, i, j, k, q => h27 i j k q
  | 28, i, j, k, q => h28 i j k q
  | 29, i, j, k, q => h29 i j k q
  | f + 30, _, _, _, _ => Or.inr rfl

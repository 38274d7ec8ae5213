/-! writes to the object itself -/
theorem lt_rfl {a b : Nat} (h : Nat.ble (a + 1) b = true) : a < b := Nat.le_of_ble_eq_true h
theorem mz_hs {n m : Nat} {rs : mz_RS} {ad : mz_T → Nat} {lv : Nat → Int32} {mk : Nat → Nat} {mm : Nat → Nat → Nat × Nat} {gi : Nat → Nat → Nat → Int32} {go : Nat → Nat → Option Nat} {gj : Nat → Nat → Int64} {n' m' : Nat} {rs' : mz_RS} {ad' : mz_T → Nat} {lv' : Nat → Int32} {mk' : Nat → Nat} {mm' : Nat → Nat → Nat × Nat} {gi' : Nat → Nat → Nat → Int32} {go' : Nat → Nat → Option Nat} {gj' : Nat → Nat → Int64} {f0 i0 j0 k0 : Nat} (h1 : ∀ i j k, ¬ (1 = f0 ∧ i = i0 ∧ j = j0 ∧ k = k0) → mz_f1 n' m' rs' ad' lv' mk' mm' gi' go' gj' i j k = mz_f1 n m rs ad lv mk mm gi go gj i j k ∨ mz_f1 n' m' rs' ad' lv' mk' mm' gi' go' gj' i j k = none) (h2 : ∀ i j k, ¬ (2 = f0 ∧ i = i0 ∧ j = j0 ∧ k = k0) → mz_f2 n' m' rs' ad' lv' mk' mm' gi' go' gj' i j k = mz_f2 n m rs ad lv mk mm gi go gj i j k ∨ mz_f2 n' m' rs' ad' lv' mk' mm' gi' go' gj' i j k = none) (h3 : ∀ i j k, ¬ (3 = f0 ∧ i = i0 ∧ j = j0 ∧ k = k0) → mz_f3 n' m' rs' ad' lv' mk' mm' gi' go' gj' i j k = mz_f3 n m rs ad lv mk mm gi go gj i j k ∨ mz_f3 n' m' rs' ad' lv' mk' mm' gi' go' gj' i j k = none) (h4 : ∀ i j k, ¬ (4 = f0 ∧ i = i0 ∧ j = j0 ∧ k = k0) → mz_f4 n' m' rs' ad' lv' mk' mm' gi' go' gj' i j k = mz_f4 n m rs ad lv mk mm gi go gj i j k ∨ mz_f4 n' m' rs' ad' lv' mk' mm' gi' go' gj' i j k = none) (h5 : ∀ i j k, ¬ (5 = f0 ∧ i = i0 ∧ j = j0 ∧ k = k0) → mz_f5 n' m' rs' ad' lv' mk' mm' gi' go' gj' i j k = mz_f5 n m rs ad lv mk mm gi go gj i j k ∨ mz_f5 n' m' rs' ad' lv' mk' mm' gi' go' gj' i j k = none) (h6 : ∀ i j k, ¬ (6 = f0 ∧ i = i0 ∧ j = j0 ∧ k = k0) → mz_f6 n' m' rs' ad' lv' mk' mm' gi' go' gj' i j k = mz_f6 n m rs ad lv mk mm gi go gj i j k ∨ mz_f6 n' m' rs' ad' lv' mk' mm' gi' go' gj' i j k = none) (h7 : ∀ i j k, ¬ (7 = f0 ∧ i = i0 ∧ j = j0 ∧ k = k0) → mz_f7 n' m' rs' ad' lv' mk' mm' gi' go' gj' i j k = mz_f7 n m rs ad lv mk mm gi go gj i j k ∨ mz_f7 n' m' rs' ad' lv' mk' mm' gi' go' gj' i j k = none) (h8 : ∀ i j k, ¬ (8 = f0 ∧ i = i0 ∧ j = j0 ∧ k = k0) → mz_f8 n' m' rs' ad' lv' mk' mm' gi' go' gj' i j k = mz_f8 n m rs ad lv mk mm gi go gj i j k ∨ mz_f8 n' m' rs' ad' lv' mk' mm' gi' go' gj' i j k = none) (h9 : ∀ i j k, ¬ (9 = f0 ∧ i = i0 ∧ j = j0 ∧ k = k0) → mz_f9 n' m' rs' ad' lv' mk' mm' gi' go' gj' i j k = mz_f9 n m rs ad lv mk mm gi go gj i j k ∨ mz_f9 n' m' rs' ad' lv' mk' mm' gi' go' gj' i j k = none) (h10 : ∀ i j k, ¬ (10 = f0 ∧ i = i0 ∧ j = j0 ∧ k = k0) → mz_f10 n' m' rs' ad' lv' mk' mm' gi' go' gj' i j k = mz_f10 n m rs ad lv mk mm gi go gj i j k ∨ mz_f10 n' m' rs' ad' lv' mk' mm' gi' go' gj' i j k = none) (h11 : ∀ i j k, ¬ (11 = f0 ∧ i = i0 ∧ j = j0 ∧ k = k0) → mz_f11 n' m' rs' ad' lv' mk' mm' gi' go' gj' i j k = mz_f11 n m rs ad lv mk mm gi go gj i j k ∨ mz_f11 n' m' rs' ad' lv' mk' mm' gi' go' gj' i j k = none) (h12 : ∀ i j k, ¬ (12 = f0 ∧ i = i0 ∧ j = j0 ∧ k = k0) → mz_f12 n' m' rs' ad' lv' mk' mm' gi' go' gj' i j k = mz_f12 n m rs ad lv mk mm gi go gj i j k ∨ mz_f12 n' m' rs' ad' lv' mk' mm' gi' go' gj' i j k = none) (h13 : ∀ i j k, ¬ (13 = f0 ∧ i = i0 ∧ j = j0 ∧ k = k0) → mz_f13 n' m' rs' ad' lv' mk' mm' gi' go' gj' i j k = mz_f13 n m rs ad lv mk mm gi go gj i j k ∨ mz_f13 n' m' rs' ad' lv' mk' mm' gi' go' gj' i j k = none) (h14 : ∀ i j k, ¬ (14 = f0 ∧ i = i0 ∧ j = j0 ∧ k = k0) → mz_f14 n' m' rs' ad' lv' mk' mm' gi' go' gj' i j k = mz_f14 n m rs ad lv mk mm gi go gj i j k ∨ mz_f14 n' m' rs' ad' lv' mk' mm' gi' go' gj' i j k = none) (h15 : ∀ i j k, ¬ (15 = f0 ∧ i = i0 ∧ j = j0 ∧ k = k0) → mz_f15 n' m' rs' ad' lv' mk' mm' gi' go' gj' i j k = mz_f15 n m rs ad lv mk mm gi go gj i j k ∨ mz_f15 n' m' rs' ad' lv' mk' mm' gi' go' gj' i j k = none) (h16 : ∀ i j k, ¬ (16 = f0 ∧ i = i0 ∧ j = j0 ∧ k = k0) → mz_f16 n' m' rs' ad' lv' mk' mm' gi' go' gj' i j k = mz_f16 n m rs ad lv mk mm gi go gj i j k ∨ mz_f16 n' m' rs' ad' lv' mk' mm' gi' go' gj' i j k = none) (h17 : ∀ i j k, ¬ (17 = f0 ∧ i = i0 ∧ j = j0 ∧ k = k0) → mz_f17 n' m' rs' ad' lv' mk' mm' gi' go' gj' i j k = mz_f17 n m rs ad lv mk mm gi go gj i j k ∨ mz_f17 n' m' rs' ad' lv' mk' mm' gi' go' gj' i j k = none) (h18 : ∀ i j k, ¬ (18 = f0 ∧ i = i0 ∧ j = j0 ∧ k = k0) → mz_f18 n' m' rs' ad' lv' mk' mm' gi' go' gj' i j k = mz_f18 n m rs ad lv mk mm gi go gj i j k ∨ mz_f18 n' m' rs' ad' lv' mk' mm' gi' go' gj' i j k = none) (h19 : ∀ i j k, ¬ (19 = f0 ∧ i = i0 ∧ j = j0 ∧ k = k0) → mz_f19 n' m' rs' ad' lv' mk' mm' gi' go' gj' i j k = mz_f19 n m rs ad lv mk mm gi go gj i j k ∨ mz_f19 n' m' rs' ad' lv' mk' mm' gi' go' gj' i j k = none) (h20 : ∀ i j k, ¬ (20 = f0 ∧ i = i0 ∧ j = j0 ∧ k = k0) → mz_f20 n' m' rs' ad' lv' mk' mm' gi' go' gj' i j k = mz_f20 n m rs ad lv mk mm gi go gj i j k ∨ mz_f20 n' m' rs' ad' lv' mk' mm' gi' go' gj' i j k = none) (h21 : ∀ i j k, ¬ (21 = f0 ∧ i = i0 ∧ j = j0 ∧ k = k0) → mz_f21 n' m' rs' ad' lv' mk' mm' gi' go' gj' i j k = mz_f21 n m rs ad lv mk mm gi go gj i j k ∨ mz_f21 n' m' rs' ad' lv' mk' mm' gi' go' gj' i j k = none) (h22 : ∀ i j k, ¬ (22 = f0 ∧ i = i0 ∧ j = j0 ∧ k = k0) → mz_f22 n' m' rs' ad' lv' mk' mm' gi' go' gj' i j k = mz_f22 n m rs ad lv mk mm gi go gj i j k ∨ mz_f22 n' m' rs' ad' lv' mk' mm' gi' go' gj' i j k = none) (h23 : ∀ i j k, ¬ (23 = f0 ∧ i = i0 ∧ j = j0 ∧ k = k0) → mz_f23 n' m' rs' ad' lv' mk' mm' gi' go' gj' i j k = mz_f23 n m rs ad lv mk mm gi go gj i j k ∨ mz_f23 n' m' rs' ad' lv' mk' mm' gi' go' gj' i j k = none) (h24 : ∀ i j k, ¬ (24 = f0 ∧ i = i0 ∧ j = j0 ∧ k = k0) → mz_f24 n' m' rs' ad' lv' mk' mm' gi' go' gj' i j k = mz_f24 n m rs ad lv mk mm gi go gj i j k ∨ mz_f24 n' m' rs' ad' lv' mk' mm' gi' go' gj' i j k = none) (h25 : ∀ i j k, ¬ (25 = f0 ∧ i = i0 ∧ j = j0 ∧ k = k0) → mz_f25 n' m' rs' ad' lv' mk' mm' gi' go' gj' i j k = mz_f25 n m rs ad lv mk mm gi go gj i j k ∨ mz_f25 n' m' rs' ad' lv' mk' mm' gi' go' gj' i j k = none) (h26 : ∀ i j k, ¬ (26 = f0 ∧ i = i0 ∧ j = j0 ∧ k = k0) → mz_f26 n' m' rs' ad' lv' mk' mm' gi' go' gj' i j k = mz_f26 n m rs ad lv mk mm gi go gj i j k ∨ mz_f26 n' m' rs' ad' lv' mk' mm' gi' go' gj' i j k = none) (h27 : ∀ i j k, ¬ (27 = f0 ∧ i = i0 ∧ j = j0 ∧ k = k0) → mz_f27 n' m' rs' ad' lv' mk' mm' gi' go' gj' i j k = mz_f27 n m rs ad lv mk mm gi go gj i j k ∨ mz_f27 n' m' rs' ad' lv' mk' mm' gi' go' gj' i j k = none) (h28 : ∀ i j k, ¬ (28 = f0 ∧ i = i0 ∧ j = j0 ∧ k = k0) → mz_f28 n' m' rs' ad' lv' mk' mm' gi' go' gj' i j k = mz_f28 n m rs ad lv mk mm gi go gj i j k ∨ mz_f28 n' m' rs' ad' lv' mk' mm' gi' go' gj' i j k = none) (h29 : ∀ i j k, ¬ (29 = f0 ∧ i = i0 ∧ j = j0 ∧ k = k0) → mz_f29 n' m' rs' ad' lv' mk' mm' gi' go' gj' i j k = mz_f29 n m rs ad lv mk mm gi go gj i j k ∨ mz_f29 n' m' rs' ad' lv' mk' mm' gi' go' gj' i j k = none) : ∀ f i j k, ¬ (f = f0 ∧ i = i0 ∧ j = j0 ∧ k = k0) → mz_fam n' m' rs' ad' lv' mk' mm' gi' go' gj' f i j k = mz_fam n m rs ad lv mk mm gi go gj f i j k ∨ mz_fam n' m' rs' ad' lv' mk' mm' gi' go' gj' f i j k = none
  | 0, _, _, _, _ => Or.inr rfl
  | 1, i, j, k, q => h1 i j k q
  | 2, i, j, k, q => h2 i j k q
  | 3, i, j, k, q => h3 i j k q
  | 4, i, j, k, q => h4 i j k q
  | 5, i, j, k, q => h5 i j k q
  | 6, i, j, k, q => h6 i j k q
  | 7, i, j, k, q => h7 i j k q
  | 8, i, j, k, q => h8 i j k q
  | 9, i, j, k, q => h9 i j k q
  | 10, i, j, k, q => h10 i j k q
  | 11, i, j, k, q => h11 i j k q
  | 12, i, j, k, q => h12 i j k q
  | 13, i, j, k, q => h13 i j k q
  | 14, i, j, k, q => h14 i j k q
  | 15, i, j, k, q => h15 i j k q
  | 16, i, j, k, q => h16 i j k q
  | 17, i, j, k, q => h17 i j k q
  | 18, i, j, k, q => h18 i j k q
  | 19, i, j, k, q => h19 i j k q
  | 20, i, j, k, q => h20 i j k q
  | 21, i, j, k, q => h21 i j k q
  | 22, i, j, k, q => h22 i j k q
  | 23, i, j, k, q => h23 i j k q
  | 24, i, j, k, q => h24 i j k q
  | 25, i, j, k, q => h25 i j k q
  | 26, i, j, k, q => h26 i j k q
  | 27, i, j, k, q => h27 i j k q
  | 28, i, j, k, q => h28 i j k q
  | 29, i, j, k, q => h29 i j k q
  | f + 30, _, _, _, _ => Or.inr rfl
theorem mz_hq {n m : Nat} {rs : mz_RS} {ad : mz_T → Nat} {lv : Nat → Int32} {mk : Nat → Nat} {mm : Nat → Nat → Nat × Nat} {gi : Nat → Nat → Nat → Int32} {go : Nat → Nat → Option Nat} {gj : Nat → Nat → Int64} {n' m' : Nat} {rs' : mz_RS} {ad' : mz_T → Nat} {lv' : Nat → Int32} {mk' : Nat → Nat} {mm' : Nat → Nat → Nat × Nat} {gi' : Nat → Nat → Nat → Int32} {go' : Nat → Nat → Option Nat} {gj' : Nat → Nat → Int64} (h1 : ∀ i j k, mz_f1 n' m' rs' ad' lv' mk' mm' gi' go' gj' i j k = mz_f1 n m rs ad lv mk mm gi go gj i j k ∨ mz_f1 n' m' rs' ad' lv' mk' mm' gi' go' gj' i j k = none) (h2 : ∀ i j k, mz_f2 n' m' rs' ad' lv' mk' mm' gi' go' gj' i j k = mz_f2 n m rs ad lv mk mm gi go gj i j k ∨ mz_f2 n' m' rs' ad' lv' mk' mm' gi' go' gj' i j k = none) (h3 : ∀ i j k, mz_f3 n' m' rs' ad' lv' mk' mm' gi' go' gj' i j k = mz_f3 n m rs ad lv mk mm gi go gj i j k ∨ mz_f3 n' m' rs' ad' lv' mk' mm' gi' go' gj' i j k = none) (h4 : ∀ i j k, mz_f4 n' m' rs' ad' lv' mk' mm' gi' go' gj' i j k = mz_f4 n m rs ad lv mk mm gi go gj i j k ∨ mz_f4 n' m' rs' ad' lv' mk' mm' gi' go' gj' i j k = none) (h5 : ∀ i j k, mz_f5 n' m' rs' ad' lv' mk' mm' gi' go' gj' i j k = mz_f5 n m rs ad lv mk mm gi go gj i j k ∨ mz_f5 n' m' rs' ad' lv' mk' mm' gi' go' gj' i j k = none) (h6 : ∀ i j k, mz_f6 n' m' rs' ad' lv' mk' mm' gi' go' gj' i j k = mz_f6 n m rs ad lv mk mm gi go gj i j k ∨ mz_f6 n' m' rs' ad' lv' mk' mm' gi' go' gj' i j k = none) (h7 : ∀ i j k, mz_f7 n' m' rs' ad' lv' mk' mm' gi' go' gj' i j k = mz_f7 n m rs ad lv mk mm gi go gj i j k ∨ mz_f7 n' m' rs' ad' lv' mk' mm' gi' go' gj' i j k = none) (h8 : ∀ i j k, mz_f8 n' m' rs' ad' lv' mk' mm' gi' go' gj' i j k = mz_f8 n m rs ad lv mk mm gi go gj i j k ∨ mz_f8 n' m' rs' ad' lv' mk' mm' gi' go' gj' i j k = none) (h9 : ∀ i j k, mz_f9 n' m' rs' ad' lv' mk' mm' gi' go' gj' i j k = mz_f9 n m rs ad lv mk mm gi go gj i j k ∨ mz_f9 n' m' rs' ad' lv' mk' mm' gi' go' gj' i j k = none) (h10 : ∀ i j k, mz_f10 n' m' rs' ad' lv' mk' mm' gi' go' gj' i j k = mz_f10 n m rs ad lv mk mm gi go gj i j k ∨ mz_f10 n' m' rs' ad' lv' mk' mm' gi' go' gj' i j k = none) (h11 : ∀ i j k, mz_f11 n' m' rs' ad' lv' mk' mm' gi' go' gj' i j k = mz_f11 n m rs ad lv mk mm gi go gj i j k ∨ mz_f11 n' m' rs' ad' lv' mk' mm' gi' go' gj' i j k = none) (h12 : ∀ i j k, mz_f12 n' m' rs' ad' lv' mk' mm' gi' go' gj' i j k = mz_f12 n m rs ad lv mk mm gi go gj i j k ∨ mz_f12 n' m' rs' ad' lv' mk' mm' gi' go' gj' i j k = none) (h13 : ∀ i j k, mz_f13 n' m' rs' ad' lv' mk' mm' gi' go' gj' i j k = mz_f13 n m rs ad lv mk mm gi go gj i j k ∨ mz_f13 n' m' rs' ad' lv' mk' mm' gi' go' gj' i j k = none) (h14 : ∀ i j k, mz_f14 n' m' rs' ad' lv' mk' mm' gi' go' gj' i j k = mz_f14 n m rs ad lv mk mm gi go gj i j k ∨ mz_f14 n' m' rs' ad' lv' mk' mm' gi' go' gj' i j k = none) (h15 : ∀ i j k, mz_f15 n' m' rs' ad' lv' mk' mm' gi' go' gj' i j k = mz_f15 n m rs ad lv mk mm gi go gj i j k ∨ mz_f15 n' m' rs' ad' lv' mk' mm' gi' go' gj' i j k = none) (h16 : ∀ i j k, mz_f16 n' m' rs' ad' lv' mk' mm' gi' go' gj' i j k = mz_f16 n m rs ad lv mk mm gi go gj i j k ∨ mz_f16 n' m' rs' ad' lv' mk' mm' gi' go' gj' i j k = none) (h17 : ∀ i j k, mz_f17 n' m' rs' ad' lv' mk' mm' gi' go' gj' i j k = mz_f17 n m rs ad lv mk mm gi go gj i j k ∨ mz_f17 n' m' rs' ad' lv' mk' mm' gi' go' gj' i j k = none) (h18 : ∀ i j k, mz_f18 n' m' rs' ad' lv' mk' mm' gi' go' gj' i j k = mz_f18 n m rs ad lv mk mm gi go gj i j k ∨ mz_f18 n' m' rs' ad' lv' mk' mm' gi' go' gj' i j k = none) (h19 : ∀ i j k, mz_f19 n' m' rs' ad' lv' mk' mm' gi' go' gj' i j k = mz_f19 n m rs ad lv mk mm gi go gj i j k ∨ mz_f19 n' m' rs' ad' lv' mk' mm' gi' go' gj' i j k = none) (h20 : ∀ i j k, mz_f20 n' m' rs' ad' lv' mk' mm' gi' go' gj' i j k = mz_f20 n m rs ad lv mk mm gi go gj i j k ∨ mz_f20 n' m' rs' ad' lv' mk' mm' gi' go' gj' i j k = none) (h21 : ∀ i j k, mz_f21 n' m' rs' ad' lv' mk' mm' gi' go' gj' i j k = mz_f21 n m rs ad lv mk mm gi go gj i j k ∨ mz_f21 n' m' rs' ad' lv' mk' mm' gi' go' gj' i j k = none) (h22 : ∀ i j k, mz_f22 n' m' rs' ad' lv' mk' mm' gi' go' gj' i j k = mz_f22 n m rs ad lv mk mm gi go gj i j k ∨ mz_f22 n' m' rs' ad' lv' mk' mm' gi' go' gj' i j k = none) (h23 : ∀ i j k, mz_f23 n' m' rs' ad' lv' mk' mm' gi' go' gj' i j k = mz_f23 n m rs ad lv mk mm gi go gj i j k ∨ mz_f23 n' m' rs' ad' lv' mk' mm' gi' go' gj' i j k = none) (h24 : ∀ i j k, mz_f24 n' m' rs' ad' lv' mk' mm' gi' go' gj' i j k = mz_f24 n m rs ad lv mk mm gi go gj i j k ∨ mz_f24 n' m' rs' ad' lv' mk' mm' gi' go' gj' i j k = none) (h25 : ∀ i j k, mz_f25 n' m' rs' ad' lv' mk' mm' gi' go' gj' i j k = mz_f25 n m rs ad lv mk mm gi go gj i j k ∨ mz_f25 n' m' rs' ad' lv' mk' mm' gi' go' gj' i j k = none) (h26 : ∀ i j k, mz_f26 n' m' rs' ad' lv' mk' mm' gi' go' gj' i j k = mz_f26 n m rs ad lv mk mm gi go gj i j k ∨ mz_f26 n' m' rs' ad' lv' mk' mm' gi' go' gj' i j k = none) (h27 : ∀ i j k, mz_f27 n' m' rs' ad' lv' mk' mm' gi' go' gj' i j k = mz_f27 n m rs ad lv mk mm gi go gj i j k ∨ mz_f27 n' m' rs' ad' lv' mk' mm' gi' go' gj' i j k = none) (h28 : ∀ i j k, mz_f28 n' m' rs' ad' lv' mk' mm' gi' go' gj' i j k = mz_f28 n m rs ad lv mk mm gi go gj i j k ∨ mz_f28 n' m' rs' ad' lv' mk' mm' gi' go' gj' i j k = none) (h29 : ∀ i j k, mz_f29 n' m' rs' ad' lv' mk' mm' gi' go' gj' i j k = mz_f29 n m rs ad lv mk mm gi go gj i j k ∨ mz_f29 n' m' rs' ad' lv' mk' mm' gi' go' gj' i j k = none) : ∀ f i j k, mz_fam n' m' rs' ad' lv' mk' mm' gi' go' gj' f i j k = mz_fam n m rs ad lv mk mm gi go gj f i j k ∨ mz_fam n' m' rs' ad' lv' mk' mm' gi' go' gj' f i j k = none
  | 0, _, _, _ => Or.inr rfl
  | 1, i, j, k => h1 i j k
  | 2, i, j, k => h2 i j k
  | 3, i, j, k => h3 i j k
  | 4, i, j, k => h4 i j k
  | 5, i, j, k => h5 i j k
  | 6, i, j, k => h6 i j k
  | 7, i, j, k => h7 i j k
  | 8, i, j, k => h8 i j k
  | 9, i, j, k => h9 i j k
  | 10, i, j, k => h10 i j k
  | 11, i, j, k => h11 i j k
  | 12, i, j, k => h12 i j k
  | 13, i, j, k => h13 i j k
  | 14, i, j, k => h14 i j k
  | 15, i, j, k => h15 i j k
  | 16, i, j, k => h16 i j k
  | 17, i, j, k => h17 i j k
  | 18, i, j, k => h18 i j k
  | 19, i, j, k => h19 i j k
  | 20, i, j, k => h20 i j k
  | 21, i, j, k => h21 i j k
  | 22, i, j, k => h22 i j k
  | 23, i, j, k => h23 i j k
  | 24, i, j, k => h24 i j k
  | 25, i, j, k => h25 i j k
  | 26, i, j, k => h26 i j k
  | 27, i, j, k => h27 i j k
  | 28, i, j, k => h28 i j k
  | 29, i, j, k => h29 i j k
  | f + 30, _, _, _ => Or.inr rfl
theorem pF_of {h : mz_H} {a ci k : Nat} {fs : List Value} {v : Value} (hc : h.1 a = some (.inr (ci, fs))) (hk : k < fs.length) : mz_pF h (some a) ci k v = some (mz_up h a (.inr (ci, fs.set k v))) := by
  simp only [mz_pF, hc, hk, and_self, if_true]
theorem sI_of {h : mz_H} {a t n : Nat} {f : Nat → Int32} {i v : Int32} (hc : h.1 a = some (.inl (t, n, .inl f))) (hi : mz_ix i n = true) : mz_sI h (some a) t i v = some (mz_up h a (.inl (t, n, .inl (upd f i.toNatClampNeg v)))) := by
  simp only [mz_sI, mz_ar, hc, if_true, hi, mz_sA]
theorem sJ_of {h : mz_H} {a n : Nat} {f : Nat → Int64} {i : Int32} {v : Int64} (hc : h.1 a = some (.inl (1, n, .inr (.inl f)))) (hi : mz_ix i n = true) : mz_sJ h (some a) i v = some (mz_up h a (.inl (1, n, .inr (.inl (vp_updL f i.toNatClampNeg v))))) := by
  simp only [mz_sJ, mz_ar, hc, if_true, hi, mz_sA]
theorem sR_of {h : mz_H} {a t n : Nat} {f : Nat → Option Nat} {i : Int32} {v : Option Nat} (hc : h.1 a = some (.inl (t, n, .inr (.inr (.inr (.inr f)))))) (hi : mz_ix i n = true) (hv : (v.isNone || mz_is h v (t - 10)) = true) : mz_sR h (some a) t i v = some (mz_up h a (.inl (t, n, .inr (.inr (.inr (.inr (va_up f i.toNatClampNeg v))))))) := by
  simp only [mz_sR, mz_ar, hc, if_true, hi, hv, Bool.and_self, mz_sA]
section
variable {VB : Nat} {n m : Nat} {rs : mz_RS} {ad : mz_T → Nat} {lv : Nat → Int32} {mk : Nat → Nat} {mm : Nat → Nat → Nat × Nat} {gi : Nat → Nat → Nat → Int32} {go : Nat → Nat → Option Nat} {gj : Nat → Nat → Int64} {h : mz_H}
theorem cw_fault (hR : mz_Rp VB n m rs ad lv mk mm gi go gj h) (v : Int32) : ∃ h', mz_pF h (some (ad (1, 0, 0, 0))) 10 8 (.int v) = some h' ∧ mz_Rp VB n m (mz_si rs 0 v) ad lv mk mm gi go gj h' ∧ h'.2 = h.2 := by
  refine ⟨_, pF_of (cc_1 hR) (lt_rfl rfl), hR.up 1 0 0 0 (Or.inl rfl) (cb_1 hR) ?_, rfl⟩
  apply mz_hs <;> first | (exact fun _ _ _ _ => Or.inl rfl) | skip
  intro i j k hne
  refine Or.inl ?_
  unfold mz_f1
  rw [if_neg (fun q => hne ⟨rfl, q⟩), if_neg (fun q => hne ⟨rfl, q⟩)]
theorem cw_ever (hR : mz_Rp VB n m rs ad lv mk mm gi go gj h) (v : Int32) : ∃ h', mz_pF h (some (ad (1, 0, 0, 0))) 10 9 (.int v) = some h' ∧ mz_Rp VB n m (mz_si rs 1 v) ad lv mk mm gi go gj h' ∧ h'.2 = h.2 := by
  refine ⟨_, pF_of (cc_1 hR) (lt_rfl rfl), hR.up 1 0 0 0 (Or.inl rfl) (cb_1 hR) ?_, rfl⟩
  apply mz_hs <;> first | (exact fun _ _ _ _ => Or.inl rfl) | skip
  intro i j k hne
  refine Or.inl ?_
  unfold mz_f1
  rw [if_neg (fun q => hne ⟨rfl, q⟩), if_neg (fun q => hne ⟨rfl, q⟩)]
theorem cs_comeTo (hR : mz_Rp VB n m rs ad lv mk mm gi go gj h) (x : Int32) : ∃ h', fn_X11_comeTo h (some (ad (1, 0, 0, 0))) x = some ((-10) - x, h', 0, 0) ∧ mz_Rp VB n m (mz_si (mz_si rs 0 x) 1 (rs.1 1 + 1)) ad lv mk mm gi go gj h' ∧ h'.2 = h.2 := by
  obtain ⟨h1, e1, R1, s1⟩ := cw_fault hR x
  obtain ⟨h2, e2, R2, s2⟩ := cw_ever R1 (rs.1 1 + 1)
  refine ⟨h2, ?_, R2, s2.trans s1⟩
  have e3 : mz_fI h1 (some (ad (1, 0, 0, 0))) 10 9 = some (rs.1 1) := by have q := cg_1_9 R1; exact q
  simp only [fn_X11_comeTo, e1, e2, e3, zo_s, zr_e]
theorem rs_fails (q sz : Nat) (rs : mz_RS) (x : Int32) : fn_X12_fails (mz_RH q sz rs) (some q) x = some ((-10) - x, mz_RH q sz (mz_si (mz_si rs 0 x) 1 (rs.1 1 + 1)), 0, 0) := by
  simp only [fn_X12_fails, rp_0, rp_1, rg_1, zo_s, zr_e]
  rfl
theorem rs_within (h : mz_H) (v a b : Int32) : fn_X12_within h v a b = some (if v < a then 0 else if b < v then 0 else 1, h, 0, 0) := by
  simp only [fn_X12_within, z_0, z_1, zc_t, zr_e]
  split
  · rfl
  · split <;> rfl
/-- the state behind a refusal with a fault, from the state ahead of it -/
theorem mz_In.num {VB o l : Nat} {rs rs' : mz_RS} {h h' : mz_H} {n m : Nat} {ad : mz_T → Nat} {lv : Nat → Int32} {mk : Nat → Nat} {mm : Nat → Nat → Nat × Nat} {gi : Nat → Nat → Nat → Int32} {go : Nat → Nat → Option Nat} {gj : Nat → Nat → Int64} (hR : mz_Rp VB n m rs' ad lv mk mm gi go gj h') (h2 : rs'.2 = rs.2) (h1 : ∀ k, 2 ≤ k → rs'.1 k = rs.1 k) (hs : h'.2 = h.2)
    (w : mz_wc n rs lv ∧ mz_wm n rs mk mm ∧ mz_wo n m rs ∧ mz_wt0 rs gi go ∧ mz_wl n rs ∧ mz_wq rs gj ∧ ad (1, 0, 0, 0) = o ∧ h.2 + 40 * (l + 1) + 1100 * (60 - m) ≤ VB) : mz_In VB o l rs' h' := by
  obtain ⟨w1, w2, w3, w4, w5, w6, w7, w8⟩ := w
  obtain ⟨r1, r2, r3⟩ := rs'
  obtain ⟨q1, q2, q3⟩ := rs
  cases h2
  dsimp only at h1
  refine ⟨n, m, ad, lv, mk, mm, gi, go, gj, hR, ?_, w2, ?_, ?_, w5, ?_, w7, by omega⟩
  · exact ⟨w1.1, (h1 2 (by omega)).trans w1.2.1, w1.2.2⟩
  · exact ⟨w3.1, (h1 32 (by omega)).trans w3.2.1, w3.2.2⟩
  · obtain ⟨t, t1, t2, t3⟩ := w4
    exact ⟨t, t1, (h1 30 (by omega)).trans t2, t3⟩
  · obtain ⟨⟨c, c1, c2, c3⟩, ⟨b, b1, b2⟩, d⟩ := w6
    refine ⟨⟨c, c1, (h1 46 (by omega)).trans c2, c3⟩, ⟨b, b1, (h1 45 (by omega)).trans b2⟩, ?_⟩
    show r1 44 = 0 ∨ r1 44 = 1
    rw [h1 44 (by omega)]
    exact d
end


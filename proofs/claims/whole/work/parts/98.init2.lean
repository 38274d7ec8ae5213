/-! the first state -/
def ci_rs : mz_RS := (fun k => if k = 27 ∨ k = 28 ∨ k = 29 then -9 else 0, fun k => if k = 49 then upd (upd (upd (upd (fun _ => 0) 0 (-1)) 1 (-1)) 2 (-1)) 3 (-1) else fun _ => 0, fun _ _ => 0)
def ci_gi : Nat → Nat → Nat → Int32 := fun a b _ => if a = 1 ∧ 2 ≤ b then -9 else 0
def ci_p (x y : Nat) : Nat := (x + y) * (x + y) + x
theorem ci_p_lt {x y x' y' : Nat} (h : x + y < x' + y') : ci_p x y < ci_p x' y' := by
  unfold ci_p
  have h1 : (x + y + 1) * (x + y + 1) ≤ (x' + y') * (x' + y') := Nat.mul_le_mul h h
  rw [Nat.add_mul, Nat.mul_add, Nat.one_mul] at h1
  omega
theorem ci_p_inj {x y x' y' : Nat} (h : ci_p x y = ci_p x' y') : x = x' ∧ y = y' := by
  rcases Nat.lt_trichotomy (x + y) (x' + y') with z | z | z
  · have := ci_p_lt z
    omega
  · unfold ci_p at h
    rw [z] at h
    omega
  · have := ci_p_lt z
    omega
def ci_e (t : mz_T) : Nat := ci_p t.1 (ci_p t.2.1 (ci_p t.2.2.1 t.2.2.2))
theorem ci_e_inj {t t' : mz_T} (h : ci_e t = ci_e t') : t = t' := by
  obtain ⟨a, b, c, d⟩ := t
  obtain ⟨a', b', c', d'⟩ := t'
  obtain ⟨rfl, h1⟩ := ci_p_inj h
  obtain ⟨rfl, h2⟩ := ci_p_inj h1
  obtain ⟨rfl, rfl⟩ := ci_p_inj h2
  rfl
def ci_off (t : mz_T) : Option Nat := if t = (1, 0, 0, 0) then some 0 else if t = (2, 0, 0, 0) then some 1 else if t = (3, 0, 0, 0) then some 2 else if t = (4, 0, 0, 0) then some 3 else if t = (5, 0, 0, 0) then some 4 else if t = (12, 0, 0, 0) then some 5 else if t = (13, 0, 0, 0) then some 6 else if t = (14, 0, 0, 0) then some 7 else if t = (12, 1, 0, 0) then some 39 else if t = (13, 1, 0, 0) then some 40 else if t = (14, 1, 0, 0) then some 41 else if t = (16, 0, 0, 0) then some 73 else if t = (25, 0, 0, 0) then some 74 else if t = (26, 0, 0, 0) then some 75 else if t = (25, 1, 0, 0) then some 76 else if t = (26, 1, 0, 0) then some 77 else if t = (27, 0, 0, 0) then some 78 else if t.1 = 15 ∧ t.2.1 < 2 ∧ t.2.2.1 < 31 ∧ t.2.2.2 = 0 then some (8 + 34 * t.2.1 + t.2.2.1) else none
def ci_inv (x : Nat) : mz_T := if x = 0 then (1, 0, 0, 0) else if x = 1 then (2, 0, 0, 0) else if x = 2 then (3, 0, 0, 0) else if x = 3 then (4, 0, 0, 0) else if x = 4 then (5, 0, 0, 0) else if x = 5 then (12, 0, 0, 0) else if x = 6 then (13, 0, 0, 0) else if x = 7 then (14, 0, 0, 0) else if x = 39 then (12, 1, 0, 0) else if x = 40 then (13, 1, 0, 0) else if x = 41 then (14, 1, 0, 0) else if x = 73 then (16, 0, 0, 0) else if x = 74 then (25, 0, 0, 0) else if x = 75 then (26, 0, 0, 0) else if x = 76 then (25, 1, 0, 0) else if x = 77 then (26, 1, 0, 0) else if x = 78 then (27, 0, 0, 0) else if x < 39 then (15, 0, x - 8, 0) else (15, 1, x - 42, 0)
theorem ci_off_ok {t : mz_T} {x : Nat} (h : ci_off t = some x) : x < 79 ∧ ci_inv x = t := by
  unfold ci_off at h
  by_cases c : t = (1, 0, 0, 0)
  · rw [if_pos c] at h
    cases h
    exact ⟨by decide, c.symm⟩
  rw [if_neg c] at h
  clear c
  by_cases c : t = (2, 0, 0, 0)
  · rw [if_pos c] at h
    cases h
    exact ⟨by decide, c.symm⟩
  rw [if_neg c] at h
  clear c
  by_cases c : t = (3, 0, 0, 0)
  · rw [if_pos c] at h
    cases h
    exact ⟨by decide, c.symm⟩
  rw [if_neg c] at h
  clear c
  by_cases c : t = (4, 0, 0, 0)
  · rw [if_pos c] at h
    cases h
    exact ⟨by decide, c.symm⟩
  rw [if_neg c] at h
  clear c
  by_cases c : t = (5, 0, 0, 0)
  · rw [if_pos c] at h
    cases h
    exact ⟨by decide, c.symm⟩
  rw [if_neg c] at h
  clear c
  by_cases c : t = (12, 0, 0, 0)
  · rw [if_pos c] at h
    cases h
    exact ⟨by decide, c.symm⟩
  rw [if_neg c] at h
  clear c
  by_cases c : t = (13, 0, 0, 0)
  · rw [if_pos c] at h
    cases h
    exact ⟨by decide, c.symm⟩
  rw [if_neg c] at h
  clear c
  by_cases c : t = (14, 0, 0, 0)
  · rw [if_pos c] at h
    cases h
    exact ⟨by decide, c.symm⟩
  rw [if_neg c] at h
  clear c
  by_cases c : t = (12, 1, 0, 0)
  · rw [if_pos c] at h
    cases h
    exact ⟨by decide, c.symm⟩
  rw [if_neg c] at h
  clear c
  by_cases c : t = (13, 1, 0, 0)
  · rw [if_pos c] at h
    cases h
    exact ⟨by decide, c.symm⟩
  rw [if_neg c] at h
  clear c
  by_cases c : t = (14, 1, 0, 0)
  · rw [if_pos c] at h
    cases h
    exact ⟨by decide, c.symm⟩
  rw [if_neg c] at h
  clear c
  by_cases c : t = (16, 0, 0, 0)
  · rw [if_pos c] at h
    cases h
    exact ⟨by decide, c.symm⟩
  rw [if_neg c] at h
  clear c
  by_cases c : t = (25, 0, 0, 0)
  · rw [if_pos c] at h
    cases h
    exact ⟨by decide, c.symm⟩
  rw [if_neg c] at h
  clear c
  by_cases c : t = (26, 0, 0, 0)
  · rw [if_pos c] at h
    cases h
    exact ⟨by decide, c.symm⟩
  rw [if_neg c] at h
  clear c
  by_cases c : t = (25, 1, 0, 0)
  · rw [if_pos c] at h
    cases h
    exact ⟨by decide, c.symm⟩
  rw [if_neg c] at h
  clear c
  by_cases c : t = (26, 1, 0, 0)
  · rw [if_pos c] at h
    cases h
    exact ⟨by decide, c.symm⟩
  rw [if_neg c] at h
  clear c
  by_cases c : t = (27, 0, 0, 0)
  · rw [if_pos c] at h
    cases h
    exact ⟨by decide, c.symm⟩
  rw [if_neg c] at h
  clear c
  obtain ⟨a, b, e, d⟩ := t
  by_cases c : a = 15 ∧ b < 2 ∧ e < 31 ∧ d = 0
  · have h' : (if a = 15 ∧ b < 2 ∧ e < 31 ∧ d = 0 then some (8 + 34 * b + e) else none) = some x := h
    rw [if_pos c] at h'
    obtain ⟨rfl, hb, he, rfl⟩ := c
    cases h'
    refine ⟨by omega, ?_⟩
    unfold ci_inv
    rw [if_neg (show ¬ 8 + 34 * b + e = 0 by omega), if_neg (show ¬ 8 + 34 * b + e = 1 by omega), if_neg (show ¬ 8 + 34 * b + e = 2 by omega), if_neg (show ¬ 8 + 34 * b + e = 3 by omega), if_neg (show ¬ 8 + 34 * b + e = 4 by omega), if_neg (show ¬ 8 + 34 * b + e = 5 by omega), if_neg (show ¬ 8 + 34 * b + e = 6 by omega), if_neg (show ¬ 8 + 34 * b + e = 7 by omega), if_neg (show ¬ 8 + 34 * b + e = 39 by omega), if_neg (show ¬ 8 + 34 * b + e = 40 by omega), if_neg (show ¬ 8 + 34 * b + e = 41 by omega), if_neg (show ¬ 8 + 34 * b + e = 73 by omega), if_neg (show ¬ 8 + 34 * b + e = 74 by omega), if_neg (show ¬ 8 + 34 * b + e = 75 by omega), if_neg (show ¬ 8 + 34 * b + e = 76 by omega), if_neg (show ¬ 8 + 34 * b + e = 77 by omega), if_neg (show ¬ 8 + 34 * b + e = 78 by omega)]
    rcases (show b = 0 ∨ b = 1 by omega) with rfl | rfl
    · rw [if_pos (by omega)]
      congr 3
      omega
    · rw [if_neg (by omega)]
      congr 3
      omega
  · have h' : (if a = 15 ∧ b < 2 ∧ e < 31 ∧ d = 0 then some (8 + 34 * b + e) else none) = some x := h
    rw [if_neg c] at h'
    cases h'
def ci_ad (S VB : Nat) (t : mz_T) : Nat := match ci_off t with
  | some x => S + x
  | none => VB + ci_e t
theorem ci_ad_s {S VB : Nat} {t : mz_T} {x : Nat} (h : ci_off t = some x) : ci_ad S VB t = S + x := by
  unfold ci_ad
  rw [h]
theorem ci_ad_n {S VB : Nat} {t : mz_T} (h : ci_off t = none) : ci_ad S VB t = VB + ci_e t := by
  unfold ci_ad
  rw [h]
theorem ci_ad_lt {S VB : Nat} (t : mz_T) : ci_ad S VB t < S + 79 ∨ VB ≤ ci_ad S VB t := by
  cases h : ci_off t with
  | none =>
    rw [ci_ad_n h]
    right
    omega
  | some x =>
    rw [ci_ad_s h]
    have := (ci_off_ok h).1
    left
    omega
theorem ci_ad_inj {S VB : Nat} (hv : S + 79 ≤ VB) {t t' : mz_T} (h : ci_ad S VB t = ci_ad S VB t') : t = t' := by
  cases h1 : ci_off t with
  | none =>
    rw [ci_ad_n h1] at h
    cases h2 : ci_off t' with
    | none =>
      rw [ci_ad_n h2] at h
      exact ci_e_inj (by omega)
    | some x =>
      rw [ci_ad_s h2] at h
      have := (ci_off_ok h2).1
      omega
  | some x =>
    rw [ci_ad_s h1] at h
    have k1 := ci_off_ok h1
    cases h2 : ci_off t' with
    | none =>
      rw [ci_ad_n h2] at h
      omega
    | some y =>
      rw [ci_ad_s h2] at h
      have k2 := ci_off_ok h2
      have : x = y := by omega
      rw [← k1.2, ← k2.2, this]
theorem ci_o15 (i j : Nat) (hi : i < 2) (hj : j < 31) : ci_off (15, i, j, 0) = some (8 + 34 * i + j) := by
  unfold ci_off
  rw [if_neg (show ¬ ((15, i, j, 0) : mz_T) = (1, 0, 0, 0) from fun z => by cases z), if_neg (show ¬ ((15, i, j, 0) : mz_T) = (2, 0, 0, 0) from fun z => by cases z), if_neg (show ¬ ((15, i, j, 0) : mz_T) = (3, 0, 0, 0) from fun z => by cases z), if_neg (show ¬ ((15, i, j, 0) : mz_T) = (4, 0, 0, 0) from fun z => by cases z), if_neg (show ¬ ((15, i, j, 0) : mz_T) = (5, 0, 0, 0) from fun z => by cases z), if_neg (show ¬ ((15, i, j, 0) : mz_T) = (12, 0, 0, 0) from fun z => by cases z), if_neg (show ¬ ((15, i, j, 0) : mz_T) = (13, 0, 0, 0) from fun z => by cases z), if_neg (show ¬ ((15, i, j, 0) : mz_T) = (14, 0, 0, 0) from fun z => by cases z), if_neg (show ¬ ((15, i, j, 0) : mz_T) = (12, 1, 0, 0) from fun z => by cases z), if_neg (show ¬ ((15, i, j, 0) : mz_T) = (13, 1, 0, 0) from fun z => by cases z), if_neg (show ¬ ((15, i, j, 0) : mz_T) = (14, 1, 0, 0) from fun z => by cases z), if_neg (show ¬ ((15, i, j, 0) : mz_T) = (16, 0, 0, 0) from fun z => by cases z), if_neg (show ¬ ((15, i, j, 0) : mz_T) = (25, 0, 0, 0) from fun z => by cases z), if_neg (show ¬ ((15, i, j, 0) : mz_T) = (26, 0, 0, 0) from fun z => by cases z), if_neg (show ¬ ((15, i, j, 0) : mz_T) = (25, 1, 0, 0) from fun z => by cases z), if_neg (show ¬ ((15, i, j, 0) : mz_T) = (26, 1, 0, 0) from fun z => by cases z), if_neg (show ¬ ((15, i, j, 0) : mz_T) = (27, 0, 0, 0) from fun z => by cases z)]
  exact if_pos ⟨rfl, hi, hj, rfl⟩
theorem ci_fam {S VB : Nat} {P : mz_T → mz_E → Prop} (h1 : ∀ i j k e, mz_f1 0 0 ci_rs (ci_ad S VB) (fun _ => 0) (fun _ => 0) (fun _ _ => (0, 0)) ci_gi (fun _ _ => none) (fun _ _ => 0) i j k = some e → P (1, i, j, k) e) (h2 : ∀ i j k e, mz_f2 0 0 ci_rs (ci_ad S VB) (fun _ => 0) (fun _ => 0) (fun _ _ => (0, 0)) ci_gi (fun _ _ => none) (fun _ _ => 0) i j k = some e → P (2, i, j, k) e) (h3 : ∀ i j k e, mz_f3 0 0 ci_rs (ci_ad S VB) (fun _ => 0) (fun _ => 0) (fun _ _ => (0, 0)) ci_gi (fun _ _ => none) (fun _ _ => 0) i j k = some e → P (3, i, j, k) e) (h4 : ∀ i j k e, mz_f4 0 0 ci_rs (ci_ad S VB) (fun _ => 0) (fun _ => 0) (fun _ _ => (0, 0)) ci_gi (fun _ _ => none) (fun _ _ => 0) i j k = some e → P (4, i, j, k) e) (h5 : ∀ i j k e, mz_f5 0 0 ci_rs (ci_ad S VB) (fun _ => 0) (fun _ => 0) (fun _ _ => (0, 0)) ci_gi (fun _ _ => none) (fun _ _ => 0) i j k = some e → P (5, i, j, k) e) (h6 : ∀ i j k e, mz_f6 0 0 ci_rs (ci_ad S VB) (fun _ => 0) (fun _ => 0) (fun _ _ => (0, 0)) ci_gi (fun _ _ => none) (fun _ _ => 0) i j k = some e → P (6, i, j, k) e) (h7 : ∀ i j k e, mz_f7 0 0 ci_rs (ci_ad S VB) (fun _ => 0) (fun _ => 0) (fun _ _ => (0, 0)) ci_gi (fun _ _ => none) (fun _ _ => 0) i j k = some e → P (7, i, j, k) e) (h8 : ∀ i j k e, mz_f8 0 0 ci_rs (ci_ad S VB) (fun _ => 0) (fun _ => 0) (fun _ _ => (0, 0)) ci_gi (fun _ _ => none) (fun _ _ => 0) i j k = some e → P (8, i, j, k) e) (h9 : ∀ i j k e, mz_f9 0 0 ci_rs (ci_ad S VB) (fun _ => 0) (fun _ => 0) (fun _ _ => (0, 0)) ci_gi (fun _ _ => none) (fun _ _ => 0) i j k = some e → P (9, i, j, k) e) (h10 : ∀ i j k e, mz_f10 0 0 ci_rs (ci_ad S VB) (fun _ => 0) (fun _ => 0) (fun _ _ => (0, 0)) ci_gi (fun _ _ => none) (fun _ _ => 0) i j k = some e → P (10, i, j, k) e) (h11 : ∀ i j k e, mz_f11 0 0 ci_rs (ci_ad S VB) (fun _ => 0) (fun _ => 0) (fun _ _ => (0, 0)) ci_gi (fun _ _ => none) (fun _ _ => 0) i j k = some e → P (11, i, j, k) e) (h12 : ∀ i j k e, mz_f12 0 0 ci_rs (ci_ad S VB) (fun _ => 0) (fun _ => 0) (fun _ _ => (0, 0)) ci_gi (fun _ _ => none) (fun _ _ => 0) i j k = some e → P (12, i, j, k) e) (h13 : ∀ i j k e, mz_f13 0 0 ci_rs (ci_ad S VB) (fun _ => 0) (fun _ => 0) (fun _ _ => (0, 0)) ci_gi (fun _ _ => none) (fun _ _ => 0) i j k = some e → P (13, i, j, k) e) (h14 : ∀ i j k e, mz_f14 0 0 ci_rs (ci_ad S VB) (fun _ => 0) (fun _ => 0) (fun _ _ => (0, 0)) ci_gi (fun _ _ => none) (fun _ _ => 0) i j k = some e → P (14, i, j, k) e) (h15 : ∀ i j k e, mz_f15 0 0 ci_rs (ci_ad S VB) (fun _ => 0) (fun _ => 0) (fun _ _ => (0, 0)) ci_gi (fun _ _ => none) (fun _ _ => 0) i j k = some e → P (15, i, j, k) e) (h16 : ∀ i j k e, mz_f16 0 0 ci_rs (ci_ad S VB) (fun _ => 0) (fun _ => 0) (fun _ _ => (0, 0)) ci_gi (fun _ _ => none) (fun _ _ => 0) i j k = some e → P (16, i, j, k) e) (h17 : ∀ i j k e, mz_f17 0 0 ci_rs (ci_ad S VB) (fun _ => 0) (fun _ => 0) (fun _ _ => (0, 0)) ci_gi (fun _ _ => none) (fun _ _ => 0) i j k = some e → P (17, i, j, k) e) (h18 : ∀ i j k e, mz_f18 0 0 ci_rs (ci_ad S VB) (fun _ => 0) (fun _ => 0) (fun _ _ => (0, 0)) ci_gi (fun _ _ => none) (fun _ _ => 0) i j k = some e → P (18, i, j, k) e) (h19 : ∀ i j k e, mz_f19 0 0 ci_rs (ci_ad S VB) (fun _ => 0) (fun _ => 0) (fun _ _ => (0, 0)) ci_gi (fun _ _ => none) (fun _ _ => 0) i j k = some e → P (19, i, j, k) e) (h20 : ∀ i j k e, mz_f20 0 0 ci_rs (ci_ad S VB) (fun _ => 0) (fun _ => 0) (fun _ _ => (0, 0)) ci_gi (fun _ _ => none) (fun _ _ => 0) i j k = some e → P (20, i, j, k) e) (h21 : ∀ i j k e, mz_f21 0 0 ci_rs (ci_ad S VB) (fun _ => 0) (fun _ => 0) (fun _ _ => (0, 0)) ci_gi (fun _ _ => none) (fun _ _ => 0) i j k = some e → P (21, i, j, k) e) (h22 : ∀ i j k e, mz_f22 0 0 ci_rs (ci_ad S VB) (fun _ => 0) (fun _ => 0) (fun _ _ => (0, 0)) ci_gi (fun _ _ => none) (fun _ _ => 0) i j k = some e → P (22, i, j, k) e) (h23 : ∀ i j k e, mz_f23 0 0 ci_rs (ci_ad S VB) (fun _ => 0) (fun _ => 0) (fun _ _ => (0, 0)) ci_gi (fun _ _ => none) (fun _ _ => 0) i j k = some e → P (23, i, j, k) e) (h24 : ∀ i j k e, mz_f24 0 0 ci_rs (ci_ad S VB) (fun _ => 0) (fun _ => 0) (fun _ _ => (0, 0)) ci_gi (fun _ _ => none) (fun _ _ => 0) i j k = some e → P (24, i, j, k) e) (h25 : ∀ i j k e, mz_f25 0 0 ci_rs (ci_ad S VB) (fun _ => 0) (fun _ => 0) (fun _ _ => (0, 0)) ci_gi (fun _ _ => none) (fun _ _ => 0) i j k = some e → P (25, i, j, k) e) (h26 : ∀ i j k e, mz_f26 0 0 ci_rs (ci_ad S VB) (fun _ => 0) (fun _ => 0) (fun _ _ => (0, 0)) ci_gi (fun _ _ => none) (fun _ _ => 0) i j k = some e → P (26, i, j, k) e) (h27 : ∀ i j k e, mz_f27 0 0 ci_rs (ci_ad S VB) (fun _ => 0) (fun _ => 0) (fun _ _ => (0, 0)) ci_gi (fun _ _ => none) (fun _ _ => 0) i j k = some e → P (27, i, j, k) e) (h28 : ∀ i j k e, mz_f28 0 0 ci_rs (ci_ad S VB) (fun _ => 0) (fun _ => 0) (fun _ _ => (0, 0)) ci_gi (fun _ _ => none) (fun _ _ => 0) i j k = some e → P (28, i, j, k) e) (h29 : ∀ i j k e, mz_f29 0 0 ci_rs (ci_ad S VB) (fun _ => 0) (fun _ => 0) (fun _ _ => (0, 0)) ci_gi (fun _ _ => none) (fun _ _ => 0) i j k = some e → P (29, i, j, k) e) : ∀ f i j k e, mz_fam 0 0 ci_rs (ci_ad S VB) (fun _ => 0) (fun _ => 0) (fun _ _ => (0, 0)) ci_gi (fun _ _ => none) (fun _ _ => 0) f i j k = some e → P (f, i, j, k) e
  | 0, _, _, _, _, q => nomatch q
  | 1, i, j, k, e, q => h1 i j k e q
  | 2, i, j, k, e, q => h2 i j k e q
  | 3, i, j, k, e, q => h3 i j k e q
  | 4, i, j, k, e, q => h4 i j k e q
  | 5, i, j, k, e, q => h5 i j k e q
  | 6, i, j, k, e, q => h6 i j k e q
  | 7, i, j, k, e, q => h7 i j k e q
  | 8, i, j, k, e, q => h8 i j k e q
  | 9, i, j, k, e, q => h9 i j k e q
  | 10, i, j, k, e, q => h10 i j k e q
  | 11, i, j, k, e, q => h11 i j k e q
  | 12, i, j, k, e, q => h12 i j k e q
  | 13, i, j, k, e, q => h13 i j k e q
  | 14, i, j, k, e, q => h14 i j k e q
  | 15, i, j, k, e, q => h15 i j k e q
  | 16, i, j, k, e, q => h16 i j k e q
  | 17, i, j, k, e, q => h17 i j k e q
  | 18, i, j, k, e, q => h18 i j k e q
  | 19, i, j, k, e, q => h19 i j k e q
  | 20, i, j, k, e, q => h20 i j k e q
  | 21, i, j, k, e, q => h21 i j k e q
  | 22, i, j, k, e, q => h22 i j k e q
  | 23, i, j, k, e, q => h23 i j k e q
  | 24, i, j, k, e, q => h24 i j k e q
  | 25, i, j, k, e, q => h25 i j k e q
  | 26, i, j, k, e, q => h26 i j k e q
  | 27, i, j, k, e, q => h27 i j k e q
  | 28, i, j, k, e, q => h28 i j k e q
  | 29, i, j, k, e, q => h29 i j k e q
  | f + 30, _, _, _, _, q => nomatch q
theorem ci_Rp {S VB sz : Nat} {c : Nat → mz_E} {h : mz_H} (H : ci_H S 79 c h) (F : ci_F S c) (hz : S + 79 ≤ sz) (hv : sz ≤ VB) : mz_Rp VB 0 0 ci_rs (ci_ad S VB) (fun _ => 0) (fun _ => 0) (fun _ _ => (0, 0)) ci_gi (fun _ _ => none) (fun _ _ => 0) (h.1, sz) := by
  obtain ⟨F0, F1, F2, F3, F4, ⟨F5, F6, F7, F8⟩, ⟨F39, F40, F41, F42⟩, F73, ⟨F74, F75⟩, ⟨F76, F77⟩, F78⟩ := F
  have at' : ∀ {t : mz_T} {x : Nat} {e : mz_E}, ci_off t = some x → c x = e → (h.1, sz).1 (ci_ad S VB t) = some e ∧ ci_ad S VB t < sz := fun {t x e} h1 h2 => by
    have h3 := (ci_off_ok h1).1
    rw [ci_ad_s h1]
    refine ⟨?_, by omega⟩
    show h.1 (S + x) = some e
    rw [H.2 x h3, h2]
  refine ⟨ci_fam (P := fun t e => (h.1, sz).1 (ci_ad S VB t) = some e ∧ ci_ad S VB t < sz) ?_ ?_ ?_ ?_ ?_ ?_ ?_ ?_ ?_ ?_ ?_ ?_ ?_ ?_ ?_ ?_ ?_ ?_ ?_ ?_ ?_ ?_ ?_ ?_ ?_ ?_ ?_ ?_ ?_, fun t t' e => ci_ad_inj (by omega) e, fun t => ?_, hv⟩
  · intro i j k e he
    unfold mz_f1 at he
    split at he
    · rename_i hc
      obtain ⟨rfl, rfl, rfl⟩ := hc
      cases he
      refine at' (x := 0) rfl (F0.trans ?_)
      rw [ci_ad_s (S := S) (VB := VB) (show ci_off (2, 0, 0, 0) = some 1 from rfl), ci_ad_s (S := S) (VB := VB) (show ci_off (12, 0, 0, 0) = some 5 from rfl), ci_ad_s (S := S) (VB := VB) (show ci_off (12, 1, 0, 0) = some 39 from rfl), ci_ad_s (S := S) (VB := VB) (show ci_off (16, 0, 0, 0) = some 73 from rfl), ci_ad_s (S := S) (VB := VB) (show ci_off (25, 0, 0, 0) = some 74 from rfl), ci_ad_s (S := S) (VB := VB) (show ci_off (25, 1, 0, 0) = some 76 from rfl), ci_ad_s (S := S) (VB := VB) (show ci_off (27, 0, 0, 0) = some 78 from rfl)]
      rfl
    · cases he
  · intro i j k e he
    unfold mz_f2 at he
    split at he
    · rename_i hc
      obtain ⟨rfl, rfl, rfl⟩ := hc
      cases he
      refine at' (x := 1) rfl (F1.trans ?_)
      rw [ci_ad_s (S := S) (VB := VB) (show ci_off (3, 0, 0, 0) = some 2 from rfl), ci_ad_s (S := S) (VB := VB) (show ci_off (4, 0, 0, 0) = some 3 from rfl), ci_ad_s (S := S) (VB := VB) (show ci_off (5, 0, 0, 0) = some 4 from rfl)]
      rfl
    · cases he
  · intro i j k e he
    unfold mz_f3 at he
    split at he
    · rename_i hc
      obtain ⟨rfl, rfl, rfl⟩ := hc
      cases he
      refine at' (x := 2) rfl (F2.trans ?_)
      unfold ci_no
      congr 6
    · cases he
  · intro i j k e he
    unfold mz_f4 at he
    split at he
    · rename_i hc
      obtain ⟨rfl, rfl, rfl⟩ := hc
      cases he
      refine at' (x := 3) rfl (F3.trans ?_)
      rfl
    · cases he
  · intro i j k e he
    unfold mz_f5 at he
    split at he
    · rename_i hc
      obtain ⟨rfl, rfl, rfl⟩ := hc
      cases he
      refine at' (x := 4) rfl (F4.trans ?_)
      rfl
    · cases he
  · intro i j k e he
    unfold mz_f6 at he
    split at he
    · rename_i hc
      exact absurd hc.1 (Nat.not_lt_zero _)
    · cases he
  · intro i j k e he
    unfold mz_f7 at he
    split at he
    · rename_i hc
      exact absurd hc.1 (Nat.not_lt_zero _)
    · cases he
  · intro i j k e he
    unfold mz_f8 at he
    split at he
    · rename_i hc
      exact absurd hc.1 (Nat.not_lt_zero _)
    · cases he
  · intro i j k e he
    unfold mz_f9 at he
    split at he
    · rename_i hc
      exact absurd hc.1 (Nat.not_lt_zero _)
    · cases he
  · intro i j k e he
    unfold mz_f10 at he
    split at he
    · rename_i hc
      exact absurd hc.1 (Nat.not_lt_zero _)
    · cases he
  · intro i j k e he
    unfold mz_f11 at he
    split at he
    · rename_i hc
      exact absurd hc.1 (Nat.not_lt_zero _)
    · cases he
  · intro i j k e he
    unfold mz_f12 at he
    split at he
    · rename_i hc
      obtain ⟨hi, rfl, rfl⟩ := hc
      cases he
      rcases (show i = 0 ∨ i = 1 by omega) with rfl | rfl
      · refine at' (x := 5) rfl (F5.trans ?_)
        rw [ci_ad_s (S := S) (VB := VB) (show ci_off (13, 0, 0, 0) = some 6 from rfl), ci_ad_s (S := S) (VB := VB) (show ci_off (14, 0, 0, 0) = some 7 from rfl)]
        rfl
      · refine at' (x := 39) rfl (F39.trans ?_)
        rw [ci_ad_s (S := S) (VB := VB) (show ci_off (13, 1, 0, 0) = some 40 from rfl), ci_ad_s (S := S) (VB := VB) (show ci_off (14, 1, 0, 0) = some 41 from rfl)]
        rfl
    · cases he
  · intro i j k e he
    unfold mz_f13 at he
    split at he
    · rename_i hc
      obtain ⟨hi, rfl, rfl⟩ := hc
      cases he
      have hb : ∀ N0, N0 + 2 = 8 + 34 * i → ci_by S N0 31 = .inl (11, 31, .inr (.inr (.inr (.inr (fun c => if c < 31 then some (ci_ad S VB (15, i, c, 0)) else none))))) := fun N0 h0 => by
        unfold ci_by
        congr 7
        funext b
        by_cases q : b < 31
        · rw [if_pos q, if_pos q, ci_ad_s (ci_o15 i b hi q), h0]
        · rw [if_neg q, if_neg q]
      rcases (show i = 0 ∨ i = 1 by omega) with rfl | rfl
      · exact at' (x := 6) rfl (F6.trans (hb 6 (by omega)))
      · exact at' (x := 40) rfl (F40.trans (hb 40 (by omega)))
    · cases he
  · intro i j k e he
    unfold mz_f14 at he
    split at he
    · rename_i hc
      obtain ⟨hi, rfl, rfl⟩ := hc
      cases he
      rcases (show i = 0 ∨ i = 1 by omega) with rfl | rfl
      · refine at' (x := 7) rfl (F7.trans ?_)
        rfl
      · refine at' (x := 41) rfl (F41.trans ?_)
        rfl
    · cases he
  · intro i j k e he
    unfold mz_f15 at he
    split at he
    · rename_i hc
      obtain ⟨hi, hj, rfl⟩ := hc
      cases he
      rcases (show i = 0 ∨ i = 1 by omega) with rfl | rfl
      · exact at' (ci_o15 0 j hi hj) (F8 j hj)
      · exact at' (ci_o15 1 j hi hj) (F42 j hj)
    · cases he
  · intro i j k e he
    unfold mz_f16 at he
    split at he
    · rename_i hc
      obtain ⟨rfl, rfl, rfl⟩ := hc
      cases he
      refine at' (x := 73) rfl (F73.trans ?_)
      unfold ci_no
      congr 6
    · cases he
  · intro i j k e he
    unfold mz_f17 at he
    split at he
    · rename_i hc
      exact absurd hc.1 (Nat.not_lt_zero _)
    · cases he
  · intro i j k e he
    unfold mz_f18 at he
    split at he
    · rename_i hc
      exact absurd hc.1 (Nat.not_lt_zero _)
    · cases he
  · intro i j k e he
    unfold mz_f19 at he
    split at he
    · rename_i hc
      exact absurd hc.1 (Nat.not_lt_zero _)
    · cases he
  · intro i j k e he
    unfold mz_f20 at he
    split at he
    · rename_i hc
      exact absurd hc.1 (Nat.not_lt_zero _)
    · cases he
  · intro i j k e he
    unfold mz_f21 at he
    split at he
    · rename_i hc
      exact absurd hc.1 (Nat.not_lt_zero _)
    · cases he
  · intro i j k e he
    unfold mz_f22 at he
    split at he
    · rename_i hc
      exact absurd hc.1 (Nat.not_lt_zero _)
    · cases he
  · intro i j k e he
    unfold mz_f23 at he
    split at he
    · rename_i hc
      exact absurd hc.1 (Nat.not_lt_zero _)
    · cases he
  · intro i j k e he
    unfold mz_f24 at he
    split at he
    · rename_i hc
      exact absurd hc.1 (Nat.not_lt_zero _)
    · cases he
  · intro i j k e he
    unfold mz_f25 at he
    split at he
    · rename_i hc
      obtain ⟨hi, rfl, rfl⟩ := hc
      cases he
      rcases (show i = 0 ∨ i = 1 by omega) with rfl | rfl
      · refine at' (x := 74) rfl (F74.trans ?_)
        rw [ci_ad_s (S := S) (VB := VB) (show ci_off (26, 0, 0, 0) = some 75 from rfl)]
        rfl
      · refine at' (x := 76) rfl (F76.trans ?_)
        rw [ci_ad_s (S := S) (VB := VB) (show ci_off (26, 1, 0, 0) = some 77 from rfl)]
        rfl
    · cases he
  · intro i j k e he
    unfold mz_f26 at he
    split at he
    · rename_i hc
      obtain ⟨hi, rfl, rfl⟩ := hc
      cases he
      rcases (show i = 0 ∨ i = 1 by omega) with rfl | rfl
      · refine at' (x := 75) rfl (F75.trans ?_)
        rfl
      · refine at' (x := 77) rfl (F77.trans ?_)
        rfl
    · cases he
  · intro i j k e he
    unfold mz_f27 at he
    split at he
    · rename_i hc
      obtain ⟨rfl, rfl, rfl⟩ := hc
      cases he
      refine at' (x := 78) rfl (F78.trans ?_)
      unfold ci_no
      congr 7
      funext b
      rw [if_neg]
      rintro ⟨hb, hb2⟩
      rcases (show b = 0 ∨ b = 1 ∨ b = 2 ∨ b = 3 by omega) with rfl | rfl | rfl | rfl <;> exact absurd hb2 (by decide)
    · cases he
  · intro i j k e he
    unfold mz_f28 at he
    split at he
    · rename_i hc
      obtain ⟨hi, hb2, -⟩ := hc
      rcases (show i = 0 ∨ i = 1 ∨ i = 2 ∨ i = 3 by omega) with rfl | rfl | rfl | rfl <;> exact absurd hb2 (by decide)
    · cases he
  · intro i j k e he
    unfold mz_f29 at he
    split at he
    · rename_i hc
      obtain ⟨hi, hb2, -⟩ := hc
      rcases (show i = 0 ∨ i = 1 ∨ i = 2 ∨ i = 3 by omega) with rfl | rfl | rfl | rfl <;> exact absurd hb2 (by decide)
    · cases he
  · rcases ci_ad_lt (S := S) (VB := VB) t with q | q
    · left
      show ci_ad S VB t < sz
      omega
    · exact Or.inr q
theorem ci_In {S VB sz l : Nat} {c : Nat → mz_E} {h : mz_H} (H : ci_H S 79 c h) (F : ci_F S c) (hz : S + 79 ≤ sz) (hv : sz + 40 * l + 1100 * 60 ≤ VB) : mz_In VB S l ci_rs (h.1, sz) := by
  refine ⟨0, 0, ci_ad S VB, fun _ => 0, fun _ => 0, fun _ _ => (0, 0), ci_gi, fun _ _ => none, fun _ _ => 0, ci_Rp H F hz (by omega), ?_, ?_, ?_, ?_, ?_, ?_, ?_, hv⟩
  · exact ⟨by decide, rfl, fun c hc => absurd hc (Nat.not_lt_zero _), fun c hc => absurd hc (Nat.not_lt_zero _), fun c hc => absurd hc (Nat.not_lt_zero _), fun c hc => absurd hc (Nat.not_lt_zero _), fun c hc => absurd hc (Nat.not_lt_zero _), fun c _ => ⟨rfl, rfl, rfl, rfl⟩, fun p _ => ⟨rfl, rfl⟩, fun p _ => rfl, fun p _ => rfl, fun c hc => absurd hc (Nat.not_lt_zero _)⟩
  · exact ⟨fun c hc => absurd hc (Nat.not_lt_zero _), fun c hc => absurd hc (Nat.not_lt_zero _), fun c hc => absurd hc (Nat.not_lt_zero _), fun c hc => absurd hc (Nat.not_lt_zero _), fun c hc => absurd hc (Nat.not_lt_zero _)⟩
  · exact ⟨by decide, rfl, fun o ho => absurd ho (Nat.not_lt_zero _), fun o s ho => absurd ho (Nat.not_lt_zero _), fun o s i ho => absurd ho (Nat.not_lt_zero _), fun o s t ho => absurd ho (Nat.not_lt_zero _), fun o s i ho => absurd ho (Nat.not_lt_zero _)⟩
  · exact ⟨0, by decide, rfl, fun i hi => absurd hi (Nat.not_lt_zero _)⟩
  · refine ⟨fun k hk => Or.inl ?_, fun k _ => Or.inl rfl⟩
    rcases (show k = 0 ∨ k = 1 ∨ k = 2 ∨ k = 3 by omega) with rfl | rfl | rfl | rfl <;> rfl
  · exact ⟨⟨0, by decide, rfl, fun i hi => absurd hi (Nat.not_lt_zero _)⟩, ⟨0, by decide, rfl⟩, Or.inl rfl⟩
  · exact ci_ad_s (show ci_off (1, 0, 0, 0) = some 0 from rfl)

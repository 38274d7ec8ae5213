/-! the constructors: rows, and the class's -/
def ci_G {α : Type} (F : mz_Res α) (B1 B2 : Nat) (P : α → mz_H → Prop) : Prop := ∃ r h' k n, F = some (r, h', k, n) ∧ k ≤ B1 ∧ n ≤ B2 ∧ P r h'
theorem ci_al {α : Type} {F : mz_Res α} {c n B1 B2 : Nat} {P : α → mz_H → Prop} (h : ci_G F B1 B2 P) : ci_G (mz_al c n F) (B1 + c) (B2 + n) P := by
  obtain ⟨r, h', k, m, rfl, h1, h2, h3⟩ := h
  exact ⟨r, h', k + c, m + n, rfl, by omega, by omega, h3⟩
theorem ci_call {α β : Type} {F : mz_Res α} {K : α → mz_H → mz_Res β} {B1 B2 C1 C2 : Nat} {Q : α → mz_H → Prop} {P : β → mz_H → Prop} (h : ci_G F B1 B2 Q) (k : ∀ r h', Q r h' → ci_G (K r h') C1 C2 P) : ci_G (mz_call F K) (C1 + B1) (C2 + B2) P := by
  obtain ⟨r, h', a, b, rfl, h1, h2, h3⟩ := h
  obtain ⟨r2, h2', a2, b2, e, g1, g2, g3⟩ := k r h' h3
  refine ⟨r2, h2', a2 + a, b2 + b, ?_, by omega, by omega, g3⟩
  show mz_al a b (K r h') = _
  rw [e]
  rfl
theorem ci_op {α β : Type} {o : Option α} {v : α} {K : α → mz_Res β} {B1 B2 : Nat} {P : β → mz_H → Prop} (e : o = some v) (h : ci_G (K v) B1 B2 P) : ci_G (mz_op o K) B1 B2 P := by
  rw [e]
  exact h
theorem ci_chk {β : Type} {b : Bool} {K : mz_Res β} {B1 B2 : Nat} {P : β → mz_H → Prop} (e : b = true) (h : ci_G K B1 B2 P) : ci_G (mz_chk b K) B1 B2 P := by
  rw [e]
  exact h
theorem ci_ret {α : Type} {v : α} {h : mz_H} {P : α → mz_H → Prop} (hP : P v h) : ci_G (mz_ret v h) 0 0 P := ⟨v, h, 0, 0, rfl, Nat.le_refl _, Nat.le_refl _, hP⟩
theorem ci_wide {α : Type} {F : mz_Res α} {B1 B2 C1 C2 : Nat} {P : α → mz_H → Prop} (h : ci_G F B1 B2 P) (h1 : B1 ≤ C1) (h2 : B2 ≤ C2) : ci_G F C1 C2 P := by
  obtain ⟨r, h', k, m, e, g1, g2, g3⟩ := h
  exact ⟨r, h', k, m, e, by omega, by omega, g3⟩
def ci_u (c : Nat → mz_E) (j : Nat) (e : mz_E) : Nat → mz_E := fun i => if i = j then e else c i
theorem ci_us {c : Nat → mz_E} {j : Nat} {e : mz_E} : ci_u c j e j = e := if_pos rfl
theorem ci_un {c : Nat → mz_E} {i j : Nat} {e : mz_E} (h : i ≠ j) : ci_u c j e i = c i := if_neg h
/-- the cells from S on, N of them -/
def ci_H (S N : Nat) (c : Nat → mz_E) (h : mz_H) : Prop := h.2 = S + N ∧ ∀ j, j < N → h.1 (S + j) = some (c j)
theorem ci_nw {S N : Nat} {c : Nat → mz_E} {h : mz_H} (H : ci_H S N c h) (e : mz_E) : ci_H S (N + 1) (ci_u c N e) (mz_nw h e) := by
  refine ⟨?_, fun j hj => ?_⟩
  · show h.2 + 1 = _
    rw [H.1]
    omega
  · show (if S + j = h.2 then some e else h.1 (S + j)) = some (if j = N then e else c j)
    by_cases q : j = N
    · rw [if_pos q, if_pos (by rw [H.1, q])]
    · rw [if_neg q, if_neg (by rw [H.1]; omega)]
      exact H.2 j (by omega)
theorem ci_upd {S N j : Nat} {c : Nat → mz_E} {h : mz_H} (H : ci_H S N c h) (e : mz_E) : ci_H S N (ci_u c j e) (mz_up h (S + j) e) := by
  refine ⟨H.1, fun i hi => ?_⟩
  show (if S + i = S + j then some e else h.1 (S + i)) = some (if i = j then e else c i)
  by_cases q : i = j
  · rw [if_pos q, if_pos (by rw [q])]
  · rw [if_neg q, if_neg (by omega)]
    exact H.2 i hi
theorem ci_oN {α : Type} {S N : Nat} {c : Nat → mz_E} {h : mz_H} (H : ci_H S N c h) {ci M : Nat} {fs : List Value} {K : Option Nat → mz_H → mz_Res α} {B1 B2 : Nat} {P : α → mz_H → Prop} (k : ∀ h', ci_H S (N + 1) (ci_u c N (.inr (ci, fs))) h' → ci_G (K (some (S + N)) h') B1 B2 P) : ci_G (mz_oN h ci M fs K) (B1 + 1) (B2 + M) P := by
  unfold mz_oN
  rw [H.1]
  exact ci_al (k _ (ci_nw H _))
theorem ci_aN {α : Type} {S N : Nat} {c : Nat → mz_E} {h : mz_H} (H : ci_H S N c h) {t n : Nat} (hn : n ≤ 1000000) {x : (Nat → Int32) ⊕ (Nat → Int64) ⊕ (Nat → UInt32) ⊕ (Nat → UInt64) ⊕ (Nat → Option Nat)} {K : Option Nat → mz_H → mz_Res α} {B1 B2 : Nat} {P : α → mz_H → Prop} (k : ∀ h', ci_H S (N + 1) (ci_u c N (.inl (t, n, x))) h' → ci_G (K (some (S + N)) h') B1 B2 P) : ci_G (mz_aN h t (nI n) x K) (B1 + 1) (B2 + n) P := by
  unfold mz_aN
  rw [H.1, cl_nI (show n < 2 ^ 31 by omega)]
  exact ci_chk (decide_eq_true ⟨nI_pos' (by omega), hn⟩) (ci_al (k _ (ci_nw H _)))
theorem ci_pF {α : Type} {S N j : Nat} {c : Nat → mz_E} {h : mz_H} (H : ci_H S N c h) (hj : j < N) {ci k : Nat} {fs : List Value} (e : c j = .inr (ci, fs)) (hk : k < fs.length) {v : Value} {K : mz_H → mz_Res α} {B1 B2 : Nat} {P : α → mz_H → Prop} (kk : ∀ h', ci_H S N (ci_u c j (.inr (ci, fs.set k v))) h' → ci_G (K h') B1 B2 P) : ci_G (mz_op (mz_pF h (some (S + j)) ci k v) K) B1 B2 P := by
  refine ci_op (v := mz_up h (S + j) (.inr (ci, fs.set k v))) ?_ (kk _ (ci_upd H _))
  simp only [mz_pF, H.2 j hj, e]
  rw [if_pos ⟨trivial, hk⟩]
theorem ci_is {S N j : Nat} {c : Nat → mz_E} {h : mz_H} (H : ci_H S N c h) (hj : j < N) {ci : Nat} {fs : List Value} (e : c j = .inr (ci, fs)) : mz_is h (some (S + j)) ci = true := by
  simp only [mz_is, H.2 j hj, e, BEq.rfl]
theorem ci_fR {S N j : Nat} {c : Nat → mz_E} {h : mz_H} (H : ci_H S N c h) (hj : j < N) {ci k : Nat} {fs : List Value} (e : c j = .inr (ci, fs)) {r : Option Nat} (hk : fs[k]? = some (va_rf r)) : mz_fR h (some (S + j)) ci k = some r := by
  refine mz_fR_of ?_
  simp only [mz_fv, H.2 j hj, e, if_true, hk]
theorem ci_sR {α : Type} {S N j : Nat} {c : Nat → mz_E} {h : mz_H} (H : ci_H S N c h) (hj : j < N) {t n x a : Nat} {f : Nat → Option Nat} (e : c j = .inl (t, n, .inr (.inr (.inr (.inr f))))) (hx : x < n) (hn : n < 2 ^ 31) (ha : mz_is h (some a) (t - 10) = true) {K : mz_H → mz_Res α} {B1 B2 : Nat} {P : α → mz_H → Prop} (kk : ∀ h', ci_H S N (ci_u c j (.inl (t, n, .inr (.inr (.inr (.inr (va_up f x (some a)))))))) h' → ci_G (K h') B1 B2 P) : ci_G (mz_op (mz_sR h (some (S + j)) t (nI x) (some a)) K) B1 B2 P := by
  refine ci_op (v := mz_up h (S + j) (.inl (t, n, .inr (.inr (.inr (.inr (va_up f x (some a)))))))) ?_ (kk _ (ci_upd H _))
  simp only [mz_sR, mz_ar, H.2 j hj, e, if_true, ix_nI hx hn, ha, cl_nI (show x < 2 ^ 31 by omega), Bool.or_true, Bool.and_true, mz_sA]
def ci_no : (Nat → Int32) ⊕ (Nat → Int64) ⊕ (Nat → UInt32) ⊕ (Nat → UInt64) ⊕ (Nat → Option Nat) := .inr (.inr (.inr (.inr (fun _ => none))))
def ci_zi : (Nat → Int32) ⊕ (Nat → Int64) ⊕ (Nat → UInt32) ⊕ (Nat → UInt64) ⊕ (Nat → Option Nat) := .inl (fun _ => 0)
def ci_zj : (Nat → Int32) ⊕ (Nat → Int64) ⊕ (Nat → UInt32) ⊕ (Nat → UInt64) ⊕ (Nat → Option Nat) := .inr (.inl (fun _ => 0))
theorem ci_X10 {S N t : Nat} {c : Nat → mz_E} {h : mz_H} (H : ci_H S N c h) (ht : t < N) (e : c t = .inr (9, [.null, .int 0, .null, .int 0, .null])) : ci_G (fn_X10_init h (some (S + t))) 3 120 (fun _ h' => ∃ c', ci_H S (N + 3) c' h' ∧ c' t = .inr (9, [.ref (S + N), .int 0, .ref (S + (N + 1)), .int 0, .ref (S + (N + 2))]) ∧ c' N = .inl (18, 40, ci_no) ∧ c' (N + 1) = .inl (0, 40, ci_zi) ∧ c' (N + 2) = .inl (2, 40, ci_zi) ∧ ∀ j, j < N → j ≠ t → c' j = c j) := by
  unfold fn_X10_init
  refine ci_chk rfl (ci_aN H (n := 40) (by decide) (fun h1 H1 => ?_))
  refine ci_pF H1 (by omega) ((ci_un (by omega)).trans e) (by simp) (fun h2 H2 => ?_)
  refine ci_aN H2 (n := 40) (by decide) (fun h3 H3 => ?_)
  refine ci_pF H3 (by omega) ((ci_un (by omega)).trans ci_us) (by simp) (fun h4 H4 => ?_)
  refine ci_aN H4 (n := 40) (by decide) (fun h5 H5 => ?_)
  refine ci_pF H5 (by omega) ((ci_un (by omega)).trans ci_us) (by simp) (fun h6 H6 => ?_)
  refine ci_ret ⟨_, H6, ci_us, ?_, ?_, ?_, fun j hj hne => ?_⟩
  · rw [ci_un (by omega), ci_un (by omega), ci_un (by omega), ci_un (by omega), ci_un (by omega), ci_us]
    rfl
  · rw [ci_un (by omega), ci_un (by omega), ci_un (by omega), ci_us]
    rfl
  · rw [ci_un (by omega), ci_us]
    rfl
  · rw [ci_un hne, ci_un (by omega), ci_un hne, ci_un (by omega), ci_un hne, ci_un (by omega)]
theorem ci_X0 {S N t : Nat} {c : Nat → mz_E} {h : mz_H} (H : ci_H S N c h) (ht : t < N) (e : c t = .inr (0, [.null, .int 0, .int 0, .int 0])) : ci_G (fn_X0_init h (some (S + t))) 1 60 (fun _ h' => ∃ c', ci_H S (N + 1) c' h' ∧ c' t = .inr (0, [.ref (S + N), .int 0, .int 0, .int 0]) ∧ c' N = .inl (1, 60, ci_zj) ∧ ∀ j, j < N → j ≠ t → c' j = c j) := by
  unfold fn_X0_init
  refine ci_chk rfl (ci_aN H (n := 60) (by decide) (fun h1 H1 => ?_))
  refine ci_pF H1 (by omega) ((ci_un (by omega)).trans e) (by simp) (fun h2 H2 => ?_)
  refine ci_ret ⟨_, H2, ci_us, ?_, fun j hj hne => ?_⟩
  · rw [ci_un (by omega), ci_us]
    rfl
  · rw [ci_un hne, ci_un (by omega)]
/-- a new entry -/
def ci_en (i : Nat) : mz_E := .inr (1, [.int (nI i), .int 0, .int 0, .int 0, .int 0, .int 0, .int 0, .int 0])
def ci_by (S N0 x : Nat) : mz_E := .inl (11, 31, .inr (.inr (.inr (.inr (fun i => if i < x then some (S + (N0 + 2 + i)) else none)))))
theorem ci_X7loop {S t N0 : Nat} (ht : t < N0) : ∀ (d x f N : Nat) (h : mz_H) (c : Nat → mz_E) (fs : List Value), x + d = 31 → d < f → N = N0 + 2 + x → ci_H S N c h → c t = .inr (6, fs) → fs[0]? = some (.ref (S + N0)) → c N0 = ci_by S N0 x → (∀ i, i < x → c (N0 + 2 + i) = ci_en i) →
    ci_G (fn_X7_init_b42 f h (some (S + t)) (nI x)) d (8 * d) (fun _ h' => ∃ c', ci_H S (N0 + 33) c' h' ∧ c' N0 = ci_by S N0 31 ∧ (∀ i, i < 31 → c' (N0 + 2 + i) = ci_en i) ∧ ∀ j, j < N0 + 2 → j ≠ N0 → c' j = c j) := by
  intro d
  induction d with
  | zero =>
    intro x f N h c fs hx hf hN H et ef eb en
    obtain ⟨f, rfl⟩ : ∃ g', f = g' + 1 := ⟨f - 1, by omega⟩
    obtain rfl : x = 31 := by omega
    obtain rfl : N = N0 + 33 := by omega
    rw [fn_X7_init_b42, if_pos (show (31 : Int32) ≤ nI 31 by decide)]
    exact ci_ret ⟨c, H, eb, en, fun _ _ _ => rfl⟩
  | succ d ih =>
    intro x f N h c fs hx hf hN H et ef eb en
    obtain ⟨f, rfl⟩ : ∃ g', f = g' + 1 := ⟨f - 1, by omega⟩
    have hle : ¬ (31 : Int32) ≤ nI x := nI_ge (show x < 31 by omega) (show 31 < 2 ^ 31 by decide)
    rw [fn_X7_init_b42, if_neg hle]
    refine ci_op (ci_fR H (by omega) et (r := some (S + N0)) ef) ?_
    have e8 : 8 * (d + 1) = 8 * d + 8 := by omega
    rw [e8]
    refine ci_oN H (fun h1 H1 => ?_)
    refine ci_chk (ci_is H1 (by omega) ci_us) ?_
    have k1 : ci_G (fn_X1_init h1 (some (S + N)) (nI x)) 0 0 (fun _ h' => ci_H S (N + 1) (ci_u (ci_u c N (.inr (1, [.int 0, .int 0, .int 0, .int 0, .int 0, .int 0, .int 0, .int 0]))) N (ci_en x)) h') := by
      unfold fn_X1_init
      refine ci_chk rfl (ci_pF H1 (by omega) ci_us (by simp) (fun h2 H2 => ?_))
      exact ci_ret H2
    refine ci_call k1 (fun _ h2 H2 => ?_)
    refine ci_sR H2 (show N0 < N + 1 by omega) ((ci_un (by omega)).trans ((ci_un (by omega)).trans eb)) (show x < 31 by omega) (by decide) (ci_is H2 (by omega) ci_us) (fun h3 H3 => ?_)
    refine ci_op rfl ?_
    rw [nI_1]
    have hv : va_up (fun i => if i < x then some (S + (N0 + 2 + i)) else none) x (some (S + N)) = fun i => if i < x + 1 then some (S + (N0 + 2 + i)) else none := by
      funext i
      show (if i = x then some (S + N) else if i < x then some (S + (N0 + 2 + i)) else none) = _
      by_cases q : i = x
      · rw [if_pos q, if_pos (by omega), q, hN]
      · rw [if_neg q]
        by_cases q2 : i < x
        · rw [if_pos q2, if_pos (by omega)]
        · rw [if_neg q2, if_neg (by omega)]
    rw [hv] at H3
    obtain ⟨r, h', k, n, g1, g2, g3, c', g4, g5, g6, g7⟩ := ih (x + 1) f (N + 1) h3 _ fs (by omega) (by omega) (by omega) H3 ((ci_un (by omega)).trans ((ci_un (by omega)).trans ((ci_un (by omega)).trans et))) ef ci_us (fun i hi => by
      rw [ci_un (by omega)]
      by_cases q : i = x
      · rw [q, ← hN, ci_us]
      · rw [ci_un (by omega), ci_un (by omega)]
        exact en i (by omega))
    refine ⟨r, h', k, n, g1, by omega, by omega, c', g4, g5, g6, fun j hj hne => ?_⟩
    rw [g7 j hj hne, ci_un hne, ci_un (by omega), ci_un (by omega)]
theorem ci_X7 {S N t : Nat} {c : Nat → mz_E} {h : mz_H} (H : ci_H S N c h) (ht : t < N) (e : c t = .inr (6, [.null, .null, .int 0, .int 0, .int 0, .int 0, .int 0])) : ci_G (fn_X7_init h (some (S + t))) 33 310 (fun _ h' => ∃ c', ci_H S (N + 33) c' h' ∧ c' t = .inr (6, [.ref (S + N), .ref (S + (N + 1)), .int 0, .int 0, .int (-9), .int (-9), .int (-9)]) ∧ c' N = ci_by S N 31 ∧ c' (N + 1) = .inl (11, 31, ci_no) ∧ (∀ i, i < 31 → c' (N + 2 + i) = ci_en i) ∧ ∀ j, j < N → j ≠ t → c' j = c j) := by
  unfold fn_X7_init
  refine ci_chk rfl (ci_aN H (n := 31) (B1 := 32) (B2 := 279) (by decide) (fun h1 H1 => ?_))
  refine ci_pF H1 (by omega) ((ci_un (by omega)).trans e) (by simp) (fun h2 H2 => ?_)
  refine ci_aN H2 (n := 31) (B1 := 31) (B2 := 248) (by decide) (fun h3 H3 => ?_)
  refine ci_pF H3 (by omega) ((ci_un (by omega)).trans ci_us) (by simp) (fun h4 H4 => ?_)
  refine ci_pF H4 (by omega) ci_us (by simp) (fun h5 H5 => ?_)
  refine ci_pF H5 (by omega) ci_us (by simp) (fun h6 H6 => ?_)
  refine ci_pF H6 (by omega) ci_us (by simp) (fun h7 H7 => ?_)
  obtain ⟨r, h', k, n, g1, g2, g3, c', g4, g5, g6, g7⟩ := ci_X7loop (S := S) (t := t) (N0 := N) ht 31 0 1001 (N + 2) h7 _ _ (by omega) (by omega) (by omega) H7 ci_us rfl (by
    rw [ci_un (by omega), ci_un (by omega), ci_un (by omega), ci_un (by omega), ci_un (by omega), ci_un (by omega), ci_us]
    unfold ci_by
    congr 6) (fun i hi => absurd hi (by omega))
  refine ⟨r, h', k, n, g1, by omega, by omega, c', g4, ?_, g5, ?_, g6, fun j hj hne => ?_⟩
  · rw [g7 t (by omega) (by omega), ci_us]
    rfl
  · rw [g7 (N + 1) (by omega) (by omega), ci_un (by omega), ci_un (by omega), ci_un (by omega), ci_un (by omega), ci_us]
    rfl
  · rw [g7 j (by omega) (by omega), ci_un hne, ci_un hne, ci_un hne, ci_un hne, ci_un (by omega), ci_un hne, ci_un (by omega)]
/-- what a new object of the class has, cell by cell -/
def ci_F (S : Nat) (c : Nat → mz_E) : Prop := c 0 = .inr (10, [.ref (S + 1), .ref (S + 5), .ref (S + 39), .ref (S + 73), .int 0, .ref (S + 74), .ref (S + 76), .ref (S + 78), .int 0, .int 0]) ∧ c 1 = .inr (9, [.ref (S + 2), .int 0, .ref (S + 3), .int 0, .ref (S + 4)]) ∧ c 2 = .inl (18, 40, ci_no) ∧ c 3 = .inl (0, 40, ci_zi) ∧ c 4 = .inl (2, 40, ci_zi) ∧
  (c 5 = .inr (6, [.ref (S + 6), .ref (S + 7), .int 0, .int 0, .int (-9), .int (-9), .int (-9)]) ∧ c 6 = ci_by S 6 31 ∧ c 7 = .inl (11, 31, ci_no) ∧ ∀ i, i < 31 → c (8 + i) = ci_en i) ∧
  (c 39 = .inr (6, [.ref (S + 40), .ref (S + 41), .int 0, .int 0, .int (-9), .int (-9), .int (-9)]) ∧ c 40 = ci_by S 40 31 ∧ c 41 = .inl (11, 31, ci_no) ∧ ∀ i, i < 31 → c (42 + i) = ci_en i) ∧
  c 73 = .inl (17, 60, ci_no) ∧ (c 74 = .inr (0, [.ref (S + 75), .int 0, .int 0, .int 0]) ∧ c 75 = .inl (1, 60, ci_zj)) ∧ (c 76 = .inr (0, [.ref (S + 77), .int 0, .int 0, .int 0]) ∧ c 77 = .inl (1, 60, ci_zj)) ∧ c 78 = .inl (13, 4, ci_no)
def ci_D : List Value := [.null, .null, .null, .null, .int 0, .null, .null, .null, .int 0, .int 0]
theorem ci_X11 (S : Nat) : ci_G (fn_X11_init (mz_nw (fun _ => none, S) (.inr (10, ci_D))) (some S)) 100 1000 (fun _ h' => ∃ c, ci_H S 79 c h' ∧ ci_F S c) := by
  have H0 : ci_H S 0 (fun _ => .inr (10, ci_D)) (fun _ => none, S) := ⟨rfl, fun j hj => absurd hj (by omega)⟩
  have H1 : ci_H S 1 _ _ := ci_nw H0 (.inr (10, ci_D))
  generalize mz_nw (fun _ => none, S) (.inr (10, ci_D)) = h at H1
  have e1 : ci_u (fun _ => Sum.inr (10, ci_D)) 0 (.inr (10, ci_D)) 0 = (.inr (10, ci_D) : mz_E) := ci_us
  generalize ci_u (fun _ => Sum.inr (10, ci_D)) 0 (.inr (10, ci_D)) = c at H1 e1
  refine ci_wide (B1 := 78) (B2 := 951) ?_ (by decide) (by decide)
  unfold fn_X11_init
  show ci_G (mz_chk (some (S + 0)).isSome _) _ _ _
  refine ci_chk rfl (ci_oN H1 (B1 := 77) (B2 := 946) (fun h2 H2 => ?_))
  refine ci_chk (ci_is H2 (by omega) ci_us) (ci_call (C1 := 74) (C2 := 826) (ci_X10 H2 (by omega) ci_us) (fun _ h3 => ?_))
  rintro ⟨c3, H3, a1, a2, a3, a4, k3⟩
  have H3 : ci_H S 5 c3 h3 := H3
  have e3 : c3 0 = .inr (10, ci_D) := (k3 0 (by omega) (by omega)).trans ((ci_un (by omega)).trans e1)
  refine ci_pF (j := 0) H3 (by omega) e3 (by decide) (fun h4 H4 => ?_)
  refine ci_oN H4 (B1 := 73) (B2 := 819) (fun h5 H5 => ?_)
  refine ci_chk (ci_is H5 (by omega) ci_us) (ci_call (C1 := 40) (C2 := 509) (ci_X7 H5 (by omega) ci_us) (fun _ h6 => ?_))
  rintro ⟨c6, H6, b1, b2, b3, b4, k6⟩
  have H6 : ci_H S 39 c6 h6 := H6
  refine ci_pF (j := 0) H6 (by omega) ((k6 0 (by omega) (by omega)).trans ((ci_un (by omega)).trans ci_us)) (by simp [ci_D]) (fun h7 H7 => ?_)
  refine ci_oN H7 (B1 := 39) (B2 := 502) (fun h8 H8 => ?_)
  refine ci_chk (ci_is H8 (by omega) ci_us) (ci_call (C1 := 6) (C2 := 192) (ci_X7 H8 (by omega) ci_us) (fun _ h9 => ?_))
  rintro ⟨c9, H9, d1, d2, d3, d4, k9⟩
  have H9 : ci_H S 73 c9 h9 := H9
  refine ci_pF (j := 0) H9 (by omega) ((k9 0 (by omega) (by omega)).trans ((ci_un (by omega)).trans ci_us)) (by simp [ci_D]) (fun h10 H10 => ?_)
  refine ci_aN H10 (n := 60) (B1 := 5) (B2 := 132) (by decide) (fun h11 H11 => ?_)
  refine ci_pF (j := 0) H11 (by omega) ((ci_un (by omega)).trans ci_us) (by simp [ci_D]) (fun h12 H12 => ?_)
  refine ci_oN H12 (B1 := 4) (B2 := 128) (fun h13 H13 => ?_)
  refine ci_chk (ci_is H13 (by omega) ci_us) (ci_call (C1 := 3) (C2 := 68) (ci_X0 H13 (by omega) ci_us) (fun _ h14 => ?_))
  rintro ⟨c14, H14, f1, f2, k14⟩
  have H14 : ci_H S 76 c14 h14 := H14
  refine ci_pF (j := 0) H14 (by omega) ((k14 0 (by omega) (by omega)).trans ((ci_un (by omega)).trans ci_us)) (by simp [ci_D]) (fun h15 H15 => ?_)
  refine ci_oN H15 (B1 := 2) (B2 := 64) (fun h16 H16 => ?_)
  refine ci_chk (ci_is H16 (by omega) ci_us) (ci_call (C1 := 1) (C2 := 4) (ci_X0 H16 (by omega) ci_us) (fun _ h17 => ?_))
  rintro ⟨c17, H17, g1, g2, k17⟩
  have H17 : ci_H S 78 c17 h17 := H17
  refine ci_pF (j := 0) H17 (by omega) ((k17 0 (by omega) (by omega)).trans ((ci_un (by omega)).trans ci_us)) (by simp [ci_D]) (fun h18 H18 => ?_)
  refine ci_aN H18 (n := 4) (B1 := 0) (B2 := 0) (by decide) (fun h19 H19 => ?_)
  refine ci_pF (j := 0) H19 (by omega) ((ci_un (by omega)).trans ci_us) (by simp [ci_D]) (fun h20 H20 => ?_)
  have q17 : ∀ j, j < 78 → j ≠ 0 → ci_u (ci_u (ci_u c17 0 (.inr (10, ((((((ci_D.set 0 (va_rf (some (S + 1)))).set 1 (va_rf (some (S + 5)))).set 2 (va_rf (some (S + 39)))).set 3 (va_rf (some (S + 73)))).set 5 (va_rf (some (S + 74)))).set 6 (va_rf (some (S + 76))))))) 78 (.inl (13, 4, ci_no))) 0 (.inr (10, (((((((ci_D.set 0 (va_rf (some (S + 1)))).set 1 (va_rf (some (S + 5)))).set 2 (va_rf (some (S + 39)))).set 3 (va_rf (some (S + 73)))).set 5 (va_rf (some (S + 74)))).set 6 (va_rf (some (S + 76)))).set 7 (va_rf (some (S + 78)))))) j = c17 j := fun j h1 h2 => by
    rw [ci_un h2, ci_un (by omega), ci_un h2]
  have q14 : ∀ j, j < 76 → j ≠ 0 → c17 j = c14 j := fun j h1 h2 => by
    rw [k17 j (by omega) (by omega), ci_un (by omega), ci_un h2]
  have q9 : ∀ j, j < 74 → j ≠ 0 → c14 j = ci_u c9 73 (.inl (17, 60, ci_no)) j := fun j h1 h2 => by
    rw [k14 j (by omega) (by omega), ci_un (by omega), ci_un h2]
    by_cases z : j = 73
    · subst z
      rw [ci_us, ci_us]
      rfl
    · rw [ci_un z, ci_un z, ci_un h2]
  have q9' : ∀ j, j < 73 → j ≠ 0 → c14 j = c9 j := fun j h1 h2 => by
    rw [q9 j (by omega) h2, ci_un (by omega)]
  have q6 : ∀ j, j < 39 → j ≠ 0 → c9 j = c6 j := fun j h1 h2 => by
    rw [k9 j (by omega) (by omega), ci_un (by omega), ci_un h2]
  have q3 : ∀ j, j < 5 → j ≠ 0 → c6 j = c3 j := fun j h1 h2 => by
    rw [k6 j (by omega) (by omega), ci_un (by omega), ci_un h2]
  have w14 : ∀ j, j < 76 → j ≠ 0 → _ = c14 j := fun j h1 h2 => (q17 j (by omega) h2).trans (q14 j h1 h2)
  have w9 : ∀ j, j < 73 → j ≠ 0 → _ = c9 j := fun j h1 h2 => (w14 j (by omega) h2).trans (q9' j h1 h2)
  have w6 : ∀ j, j < 39 → j ≠ 0 → _ = c6 j := fun j h1 h2 => (w9 j (by omega) h2).trans (q6 j h1 h2)
  have w3 : ∀ j, j < 5 → j ≠ 0 → _ = c3 j := fun j h1 h2 => (w6 j (by omega) h2).trans (q3 j h1 h2)
  refine ci_ret ⟨_, H20, ?_, ?_, ?_, ?_, ?_, ⟨?_, ?_, ?_, fun i hi => ?_⟩, ⟨?_, ?_, ?_, fun i hi => ?_⟩, ?_, ⟨?_, ?_⟩, ⟨?_, ?_⟩, ?_⟩
  · exact ci_us
  · exact (w3 1 (by omega) (by omega)).trans a1
  · exact (w3 2 (by omega) (by omega)).trans a2
  · exact (w3 3 (by omega) (by omega)).trans a3
  · exact (w3 4 (by omega) (by omega)).trans a4
  · exact (w6 5 (by omega) (by omega)).trans b1
  · exact (w6 6 (by omega) (by omega)).trans b2
  · exact (w6 7 (by omega) (by omega)).trans b3
  · exact (w6 (8 + i) (by omega) (by omega)).trans (b4 i hi)
  · exact (w9 39 (by omega) (by omega)).trans d1
  · exact (w9 40 (by omega) (by omega)).trans d2
  · exact (w9 41 (by omega) (by omega)).trans d3
  · exact (w9 (42 + i) (by omega) (by omega)).trans (d4 i hi)
  · exact ((w14 73 (by omega) (by omega)).trans (q9 73 (by omega) (by omega))).trans ci_us
  · exact (w14 74 (by omega) (by omega)).trans f1
  · exact (w14 75 (by omega) (by omega)).trans f2
  · exact (q17 76 (by omega) (by omega)).trans g1
  · exact (q17 77 (by omega) (by omega)).trans g2
  · exact (ci_un (by omega)).trans ci_us

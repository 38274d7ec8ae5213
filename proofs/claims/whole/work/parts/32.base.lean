/-! rows for runs, numbers; what the states keep -/
theorem zo_s {α β : Type} (v : α) (k : α → Option β) : mz_op (some v) k = k v := rfl
theorem zo_n {α β : Type} (k : α → Option β) : mz_op none k = none := rfl
theorem zc_t {β : Type} (k : Option β) : mz_chk true k = k := rfl
theorem zl_0 {α β : Type} (v : α) (h : mz_H) (k : α → mz_H → mz_Res β) : mz_call (some (v, h, 0, 0)) k = k v h := by
  show mz_al 0 0 (k v h) = k v h
  cases k v h with
  | none => rfl
  | some z => rfl
theorem zl_s {α β : Type} (v : α) (h : mz_H) (c n : Nat) (k : α → mz_H → mz_Res β) : mz_call (some (v, h, c, n)) k = mz_al c n (k v h) := rfl
theorem za_s {α : Type} (c n : Nat) (v : α) (h : mz_H) (k m : Nat) : mz_al c n (some (v, h, k, m)) = some (v, h, k + c, m + n) := rfl
theorem zr_e {α : Type} (v : α) (h : mz_H) : mz_ret v h = some (v, h, 0, 0) := rfl
theorem z_0 : ((0 : Int32) &&& 1 == 0) = true := by decide
theorem z_1 : ((1 : Int32) &&& 1 == 1) = true := by decide
theorem ix_nI {j n : Nat} (h : j < n) (hn : n < 2 ^ 31) : mz_ix (nI j) n = true := decide_eq_true (nI_in h hn)
theorem ix_c {x : Int32} {j n : Nat} (hx : x = nI j) (h : j < n) (hn : n < 2 ^ 31) : mz_ix x n = true := by rw [hx]; exact ix_nI h hn
theorem cl_nI {j : Nat} (h : j < 2 ^ 31) : (nI j).toNatClampNeg = j := nI_clamp h
/-- an argument against a count -/
theorem mz_arg (c : Int32) {n : Nat} (hn : n < 2 ^ 31) : c < 0 ∨ (¬ c < 0 ∧ nI n ≤ c) ∨ (∃ j : Nat, j < n ∧ c = nI j ∧ ¬ c < 0 ∧ ¬ nI n ≤ c) := by
  rcases pk_ix c hn with h | h | ⟨j, hj, rfl⟩
  · exact Or.inl h
  · refine Or.inr (Or.inl ⟨?_, h⟩)
    have h0 : (0 : Int32) ≤ nI n := nI_pos' hn
    exact Int32.not_lt.mpr (Int32.le_trans h0 h)
  · exact Or.inr (Or.inr ⟨j, hj, rfl, nI_pos (Nat.lt_trans hj hn), nI_ge hj hn⟩)
theorem l2 (a b : Nat) : (2 : Int32) * nI a + nI b = nI (2 * a + b) := by rw [show (2 : Int32) = nI 2 from rfl, pk_mul, nI_add]
theorem l3 (a b : Nat) : (3 : Int32) * nI a + nI b = nI (3 * a + b) := by rw [show (3 : Int32) = nI 3 from rfl, pk_mul, nI_add]
theorem l3' (a : Nat) : (3 : Int32) * nI a = nI (3 * a) := by rw [show (3 : Int32) = nI 3 from rfl, pk_mul]
theorem l7 (a b : Nat) : (7 : Int32) * nI a + nI b = nI (7 * a + b) := by rw [show (7 : Int32) = nI 7 from rfl, pk_mul, nI_add]
theorem l7' (a : Nat) : (7 : Int32) * nI a = nI (7 * a) := by rw [show (7 : Int32) = nI 7 from rfl, pk_mul]
theorem l8 (a b : Nat) : (8 : Int32) * nI a + nI b = nI (8 * a + b) := by rw [show (8 : Int32) = nI 8 from rfl, pk_mul, nI_add]
theorem l16 (a b : Nat) : (16 : Int32) * nI a + nI b = nI (16 * a + b) := by rw [show (16 : Int32) = nI 16 from rfl, pk_mul, nI_add]
theorem l30 (a b : Nat) : (30 : Int32) * nI a + nI b = nI (30 * a + b) := by rw [show (30 : Int32) = nI 30 from rfl, pk_mul, nI_add]
theorem l30' (a : Nat) : (30 : Int32) * nI a = nI (30 * a) := by rw [show (30 : Int32) = nI 30 from rfl, pk_mul]
theorem l900 (a b : Nat) : (900 : Int32) * nI a + nI b = nI (900 * a + b) := by rw [show (900 : Int32) = nI 900 from rfl, pk_mul, nI_add]
theorem l900' (a : Nat) : (900 : Int32) * nI a = nI (900 * a) := by rw [show (900 : Int32) = nI 900 from rfl, pk_mul]
theorem l31 (a b : Nat) : nI a * (31 : Int32) + nI b = nI (a * 31 + b) := by rw [show (31 : Int32) = nI 31 from rfl, pk_mul, nI_add]
theorem nI_ne9 {j : Nat} (h : j < 2 ^ 31) : ¬ nI j = (-9) := fun e => by
  have h1 := nI_pos h
  rw [e] at h1
  exact h1 (by decide)
def mz_wc (n : Nat) (rs : mz_RS) (lv : Nat → Int32) : Prop := n ≤ 40 ∧ rs.1 2 = nI n ∧
  (∀ c, c < n → ∃ f, f < 6 ∧ rs.2.1 3 c = nI f) ∧
  (∀ c, c < n → (rs.2.1 4 c = -9 ∧ lv c = 0) ∨ ∃ p, p < c ∧ rs.2.1 4 c = nI p ∧ lv c = lv p + 1) ∧
  (∀ c, c < n → ∃ l, l < 8 ∧ lv c = nI l) ∧
  (∀ c, c < n → ∃ g, g ≤ 3 ∧ rs.2.1 5 c = nI g ∧ ∀ i, i < g → ∃ d, d < n ∧ rs.2.1 6 (3 * c + i) = nI d) ∧
  (∀ c, c < n → ∃ v, v ≤ 2 ∧ rs.2.1 7 c = nI v ∧ ∀ i, i < v → ∃ b, b < 8 ∧ rs.2.1 8 (2 * c + i) = nI b) ∧
  (∀ c, n ≤ c → rs.2.1 5 c = 0 ∧ rs.2.1 7 c = 0 ∧ rs.2.1 9 c = 0 ∧ rs.2.1 14 c = 0) ∧ (∀ p, 3 * n ≤ p → rs.2.1 6 p = 0 ∧ rs.2.1 15 p = 0) ∧ (∀ p, 2 * n ≤ p → rs.2.1 8 p = 0) ∧ (∀ p, 93 * n ≤ p → rs.2.1 10 p = 0) ∧
  (∀ c, c < n → rs.2.1 14 c = 0 ∨ rs.2.1 14 c = 1)
def mz_wm (n : Nat) (rs : mz_RS) (mk : Nat → Nat) (mm : Nat → Nat → Nat × Nat) : Prop := (∀ c, c < n → mk c ≤ 12 ∧ rs.2.1 9 c = nI (mk c)) ∧
  (∀ c, c < n → ∀ i, i < mk c → (mm c i).1 < 3 ∧ (mm c i).2 < 31) ∧ (∀ c, c < n → ∀ i j, i < mk c → j < mk c → mm c i = mm c j → i = j) ∧
  (∀ c, c < n → ∀ s k, s < 3 → k < 31 → (rs.2.1 10 ((3 * c + s) * 31 + k) = 1 ∧ ∃ i, i < mk c ∧ mm c i = (s, k)) ∨ (rs.2.1 10 ((3 * c + s) * 31 + k) = 0 ∧ ¬ ∃ i, i < mk c ∧ mm c i = (s, k))) ∧
  (∀ c, c < n → ∀ s k, s < 3 → k < 31 → rs.2.1 10 ((3 * c + s) * 31 + k) = 1 → (∃ l, l < 11 ∧ rs.2.1 11 ((3 * c + s) * 31 + k) = nI l ∧ (8 < l → nI (l - 9) < rs.2.1 7 c)) ∧ (∃ d, d < 3 ∧ rs.2.1 12 ((3 * c + s) * 31 + k) = nI d) ∧ ∃ w, w < 8 ∧ rs.2.1 13 ((3 * c + s) * 31 + k) = nI w)
/-- what a cell of a lane is -/
def mz_cv_ok (m : Nat) (lane : Int32) (v : Int64) : Prop := (lane = 8 → v = -9 ∨ ∃ o, o < m ∧ v = (nI o).toInt64)
def mz_wo (n m : Nat) (rs : mz_RS) : Prop := m ≤ 60 ∧ rs.1 32 = nI m ∧ (∀ o, o < m → (∃ c, c < n ∧ rs.2.1 33 o = nI c) ∧ ∃ k, k ≤ 16 ∧ rs.2.1 34 o = nI k) ∧
  (∀ o s, o < m → s < mz_sl rs o → (∃ k, k < 31 ∧ rs.2.1 35 (16 * o + s) = nI k) ∧ (∃ l, l < 9 ∧ rs.2.1 36 (16 * o + s) = nI l) ∧ (∃ d, d < 3 ∧ rs.2.1 37 (16 * o + s) = nI d) ∧ (rs.2.1 39 (16 * o + s) = 0 ∨ rs.2.1 39 (16 * o + s) = 1) ∧ (∃ r, r ≤ 30 ∧ rs.2.1 40 (16 * o + s) = nI r) ∧ (rs.2.1 37 (16 * o + s) = 0 → rs.2.1 39 (16 * o + s) = 1 ∧ rs.2.1 40 (16 * o + s) = 1)) ∧
  (∀ o s i, o < m → s < mz_sl rs o → i < 30 → rs.2.1 37 (16 * o + s) = 2 → rs.2.1 39 (16 * o + s) = 1 → i < mz_rl rs (16 * o + s) → (rs.2.1 41 (30 * (16 * o + s) + i) = 0 ∨ rs.2.1 41 (30 * (16 * o + s) + i) = 1) ∧ (rs.2.1 41 (30 * (16 * o + s) + i) = 1 → ∃ r, r ≤ 30 ∧ rs.2.1 42 (30 * (16 * o + s) + i) = nI r)) ∧
  (∀ o s t, o < m → s < mz_sl rs o → t < mz_sl rs o → rs.2.1 35 (16 * o + s) = rs.2.1 35 (16 * o + t) → s = t) ∧
  (∀ o s i, o < m → s < mz_sl rs o → rs.2.1 37 (16 * o + s) ≠ 2 → rs.2.1 39 (16 * o + s) = 1 → i < mz_rl rs (16 * o + s) → mz_cv_ok m (rs.2.1 36 (16 * o + s)) (rs.2.2 43 (900 * (16 * o + s) + i)))
def mz_wt0 (rs : mz_RS) (gi : Nat → Nat → Nat → Int32) (go : Nat → Nat → Option Nat) : Prop := ∃ t, t ≤ 31 ∧ rs.1 30 = nI t ∧ ∀ i, i < t → ∃ k, k < 31 ∧ go 0 i = some k ∧ rs.2.1 31 (7 * i) = nI k ∧ rs.2.1 31 (7 * i + 1) = gi 2 k 1 ∧ rs.2.1 31 (7 * i + 2) = gi 2 k 2 ∧ rs.2.1 31 (7 * i + 3) = gi 2 k 3 ∧ rs.2.1 31 (7 * i + 4) = gi 2 k 4 ∧ rs.2.1 31 (7 * i + 5) = gi 2 k 5 ∧ rs.2.1 31 (7 * i + 6) = gi 2 k 6
def mz_wl (n : Nat) (rs : mz_RS) : Prop := (∀ k, k < 4 → rs.2.1 49 k = -1 ∨ ∃ l, l ≤ 8 ∧ rs.2.1 49 k = nI l) ∧ (∀ k, k < 4 → rs.2.1 50 k = 0 ∨ rs.2.1 50 k = 1 ∨ rs.2.1 50 k = 2)
def mz_wq (rs : mz_RS) (gj : Nat → Nat → Int64) : Prop := (∃ c, c ≤ 60 ∧ rs.1 46 = nI c ∧ ∀ i, i < c → gj 0 i = rs.2.2 47 i) ∧ (∃ l, l < 8 ∧ rs.1 45 = nI l) ∧ (rs.1 44 = 0 ∨ rs.1 44 = 1)
/-- the class's world h stands for the reference's state rs; o: where the object is; l: how many calls may come -/
def mz_In (VB o l : Nat) (rs : mz_RS) (h : mz_H) : Prop := ∃ (n m : Nat) (ad : mz_T → Nat) (lv : Nat → Int32) (mk : Nat → Nat) (mm : Nat → Nat → Nat × Nat) (gi : Nat → Nat → Nat → Int32) (go : Nat → Nat → Option Nat) (gj : Nat → Nat → Int64),
  mz_Rp VB n m rs ad lv mk mm gi go gj h ∧ mz_wc n rs lv ∧ mz_wm n rs mk mm ∧ mz_wo n m rs ∧ mz_wt0 rs gi go ∧ mz_wl n rs ∧ mz_wq rs gj ∧ ad (1, 0, 0, 0) = o ∧ h.2 + 40 * l + 1100 * (60 - m) ≤ VB
/-- a call keeps both worlds alike, and answers alike -/
def mz_Ok {α : Type} (VB o q l : Nat) (rs : mz_RS) (fx fm : mz_H → mz_Res α) (h : mz_H) : Prop := ∃ (r : α) (h' : mz_H) (k n : Nat) (rs' : mz_RS), fx h = some (r, h', k, n) ∧ fm (mz_RH q h'.2 rs) = some (r, mz_RH q h'.2 rs', 0, 0) ∧ mz_In VB o l rs' h' ∧ h.2 ≤ h'.2 ∧
  (rs.1 32).toNatClampNeg ≤ (rs'.1 32).toNatClampNeg ∧ k ≤ 40 + 1100 * ((rs'.1 32).toNatClampNeg - (rs.1 32).toNatClampNeg) ∧ n ≤ 700 + 16000 * ((rs'.1 32).toNatClampNeg - (rs.1 32).toNatClampNeg)
/-- nothing but numbers of the state has changed, and no cell is new -/
theorem mz_In.less {VB o l : Nat} {rs : mz_RS} {h : mz_H} (H : mz_In VB o (l + 1) rs h) : mz_In VB o l rs h := by
  obtain ⟨n, m, ad, lv, mk, mm, gi, go, gj, h1, h2, h3, h4, h5, h6, h7, h8, h9⟩ := H
  exact ⟨n, m, ad, lv, mk, mm, gi, go, gj, h1, h2, h3, h4, h5, h6, h7, h8, by omega⟩
theorem mz_Ok.same {α : Type} {VB o q l : Nat} {rs : mz_RS} {fx fm : mz_H → mz_Res α} {h : mz_H} (H : mz_In VB o (l + 1) rs h) (r : α) (h1 : fx h = some (r, h, 0, 0)) (h2 : fm (mz_RH q h.2 rs) = some (r, mz_RH q h.2 rs, 0, 0)) : mz_Ok VB o q l rs fx fm h :=
  ⟨r, h, 0, 0, rs, h1, h2, H.less, Nat.le_refl _, Nat.le_refl _, by omega, by omega⟩

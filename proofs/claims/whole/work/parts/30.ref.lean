/-! THE REFERENCE'S HEAP as a function of its state: ints by field number, int arrays, long arrays -/
abbrev mz_RS : Type := (Nat → Int32) × (Nat → Nat → Int32) × (Nat → Nat → Int64)
def mz_si (rs : mz_RS) (k : Nat) (v : Int32) : mz_RS := (fun j => if j = k then v else rs.1 j, rs.2)
def mz_sa (rs : mz_RS) (k i : Nat) (v : Int32) : mz_RS := (rs.1, fun j => if j = k then upd (rs.2.1 k) i v else rs.2.1 j, rs.2.2)
def mz_sj (rs : mz_RS) (k i : Nat) (v : Int64) : mz_RS := (rs.1, rs.2.1, fun j => if j = k then vp_updL (rs.2.2 k) i v else rs.2.2 j)
def mz_tabL : List (Nat × Nat × Nat) := [(3, 0, 40), (4, 0, 40), (5, 0, 40), (6, 0, 120), (7, 0, 40), (8, 0, 80), (9, 0, 40), (10, 2, 3720), (11, 0, 3720), (12, 0, 3720), (13, 0, 3720), (14, 2, 40), (15, 0, 120), (16, 0, 40), (18, 0, 41), (19, 0, 41), (25, 0, 217), (31, 0, 217), (33, 0, 60), (34, 0, 60), (35, 0, 960), (36, 0, 960), (37, 0, 960), (38, 0, 960), (39, 2, 960), (40, 0, 960), (41, 2, 28800), (42, 0, 28800), (43, 1, 864000), (47, 1, 60), (48, 1, 60), (49, 0, 4), (50, 0, 4), (51, 0, 32)]
def mz_tab (j : Nat) : Nat × Nat × Nat := (mz_tabL[j]?).getD (99, 9, 0)
def mz_rx (rs : mz_RS) (p : Nat × Nat × Nat) : mz_E := if p.2.1 = 1 then .inl (1, p.2.2, .inr (.inl (rs.2.2 p.1))) else .inl (p.2.1, p.2.2, .inl (rs.2.1 p.1))
def mz_rc (rs : mz_RS) (j : Nat) : Option mz_E := if j < 34 then some (mz_rx rs (mz_tab j)) else none
def mz_rf (q : Nat) (rs : mz_RS) : List Value := [.int (rs.1 0), .int (rs.1 1), .int (rs.1 2), .ref (q + 1), .ref (q + 2), .ref (q + 3), .ref (q + 4), .ref (q + 5), .ref (q + 6), .ref (q + 7), .ref (q + 8), .ref (q + 9), .ref (q + 10), .ref (q + 11), .ref (q + 12), .ref (q + 13), .ref (q + 14), .int (rs.1 17), .ref (q + 15), .ref (q + 16), .int (rs.1 20), .int (rs.1 21), .int (rs.1 22), .int (rs.1 23), .int (rs.1 24), .ref (q + 17), .int (rs.1 26), .int (rs.1 27), .int (rs.1 28), .int (rs.1 29), .int (rs.1 30), .ref (q + 18), .int (rs.1 32), .ref (q + 19), .ref (q + 20), .ref (q + 21), .ref (q + 22), .ref (q + 23), .ref (q + 24), .ref (q + 25), .ref (q + 26), .ref (q + 27), .ref (q + 28), .ref (q + 29), .int (rs.1 44), .int (rs.1 45), .int (rs.1 46), .ref (q + 30), .ref (q + 31), .ref (q + 32), .ref (q + 33), .ref (q + 34)]
def mz_RH (q sz : Nat) (rs : mz_RS) : mz_H := (fun a => if a = q then some (.inr (11, mz_rf q rs)) else if a < q then none else mz_rc rs (a - (q + 1)), sz)
theorem mz_tab_inj : ∀ j, j < 34 → ∀ j', j' < 34 → j ≠ j' → (mz_tab j).1 ≠ (mz_tab j').1 := by decide +kernel
theorem mz_RH_self (q sz : Nat) (rs : mz_RS) : (mz_RH q sz rs).1 q = some (.inr (11, mz_rf q rs)) := by simp [mz_RH]
theorem mz_RH_at (q sz : Nat) (rs : mz_RS) (j : Nat) : (mz_RH q sz rs).1 (q + (j + 1)) = mz_rc rs j := by
  have h1 : ¬ q + (j + 1) = q := by omega
  have h2 : ¬ q + (j + 1) < q := by omega
  have h3 : q + (j + 1) - (q + 1) = j := by omega
  simp only [mz_RH, if_neg h1, if_neg h2, h3]
theorem mz_RH_upf {q sz : Nat} {rs rs' : mz_RS} {fs : List Value} (hf : fs = mz_rf q rs') (hc : ∀ j, mz_rc rs' j = mz_rc rs j) : mz_up (mz_RH q sz rs) q (.inr (11, fs)) = mz_RH q sz rs' := by
  subst hf
  refine Prod.ext (funext fun a => ?_) rfl
  by_cases h : a = q
  · simp [mz_up, mz_RH, h]
  · simp only [mz_up, mz_RH, if_neg h, hc]
theorem mz_RH_upa {q sz : Nat} {rs rs' : mz_RS} {j : Nat} {e : mz_E} (hf : mz_rf q rs' = mz_rf q rs) (hj : mz_rc rs' j = some e) (hc : ∀ i, i ≠ j → mz_rc rs' i = mz_rc rs i) : mz_up (mz_RH q sz rs) (q + (j + 1)) e = mz_RH q sz rs' := by
  refine Prod.ext (funext fun a => ?_) rfl
  by_cases h : a = q + (j + 1)
  · subst h
    rw [mz_RH_at, hj]
    simp [mz_up]
  · by_cases h2 : a = q
    · simp [mz_up, mz_RH, h2, hf]
    · by_cases h3 : a < q
      · simp only [mz_up, mz_RH, if_neg h, if_neg h2, if_pos h3]
      · simp only [mz_up, mz_RH, if_neg h, if_neg h2, if_neg h3]
        exact (hc _ (by omega)).symm
theorem mz_rx_si (rs : mz_RS) (k : Nat) (v : Int32) (j : Nat) : mz_rc (mz_si rs k v) j = mz_rc rs j := rfl
theorem mz_rc_sa (rs : mz_RS) {j k : Nat} (i : Nat) (v : Int32) (hj : j < 34) (hk : (mz_tab j).1 = k) (ht : (mz_tab j).2.1 ≠ 1) : mz_rc (mz_sa rs k i v) j = some (.inl ((mz_tab j).2.1, (mz_tab j).2.2, .inl (upd (rs.2.1 k) i v))) ∧ ∀ i', i' ≠ j → mz_rc (mz_sa rs k i v) i' = mz_rc rs i' := by
  refine ⟨by simp [mz_rc, hj, mz_rx, ht, hk, mz_sa], fun i' hi => ?_⟩
  unfold mz_rc
  by_cases h : i' < 34
  · rw [if_pos h, if_pos h]
    have hn : (mz_tab i').1 ≠ k := by rw [← hk]; exact mz_tab_inj i' h j hj hi
    unfold mz_rx
    simp only [mz_sa, if_neg hn]
  · rw [if_neg h, if_neg h]
theorem mz_rc_sj (rs : mz_RS) {j k : Nat} (i : Nat) (v : Int64) (hj : j < 34) (hk : (mz_tab j).1 = k) (ht : (mz_tab j).2.1 = 1) : mz_rc (mz_sj rs k i v) j = some (.inl (1, (mz_tab j).2.2, .inr (.inl (vp_updL (rs.2.2 k) i v)))) ∧ ∀ i', i' ≠ j → mz_rc (mz_sj rs k i v) i' = mz_rc rs i' := by
  refine ⟨by simp [mz_rc, hj, mz_rx, ht, hk, mz_sj], fun i' hi => ?_⟩
  unfold mz_rc
  by_cases h : i' < 34
  · rw [if_pos h, if_pos h]
    have hn : (mz_tab i').1 ≠ k := by rw [← hk]; exact mz_tab_inj i' h j hj hi
    unfold mz_rx
    simp only [mz_sj, if_neg hn]
  · rw [if_neg h, if_neg h]
theorem mz_RH_ai {q sz : Nat} {rs : mz_RS} {j k t n : Nat} (hj : j < 34) (ht : mz_tab j = (k, t, n)) (h1 : t ≠ 1) (i : Int32) : mz_aI (mz_RH q sz rs) (some (q + (j + 1))) t i = if mz_ix i n then some (rs.2.1 k i.toNatClampNeg) else none := by
  have e : (mz_RH q sz rs).1 (q + (j + 1)) = some (.inl (t, n, .inl (rs.2.1 k))) := by rw [mz_RH_at, mz_rc, if_pos hj, ht, mz_rx, if_neg h1]
  simp only [mz_aI, mz_ar, e, if_true]
theorem mz_RH_aj {q sz : Nat} {rs : mz_RS} {j k n : Nat} (hj : j < 34) (ht : mz_tab j = (k, 1, n)) (i : Int32) : mz_aJ (mz_RH q sz rs) (some (q + (j + 1))) i = if mz_ix i n then some (rs.2.2 k i.toNatClampNeg) else none := by
  have e : (mz_RH q sz rs).1 (q + (j + 1)) = some (.inl (1, n, .inr (.inl (rs.2.2 k)))) := by rw [mz_RH_at, mz_rc, if_pos hj, ht, mz_rx, if_pos rfl]
  simp only [mz_aJ, mz_ar, e, if_true]
theorem mz_RH_wi {q sz : Nat} {rs : mz_RS} {j k t n : Nat} (hj : j < 34) (ht : mz_tab j = (k, t, n)) (h1 : t ≠ 1) (i v : Int32) : mz_sI (mz_RH q sz rs) (some (q + (j + 1))) t i v = if mz_ix i n then some (mz_RH q sz (mz_sa rs k i.toNatClampNeg v)) else none := by
  have e : (mz_RH q sz rs).1 (q + (j + 1)) = some (.inl (t, n, .inl (rs.2.1 k))) := by rw [mz_RH_at, mz_rc, if_pos hj, ht, mz_rx, if_neg h1]
  have hc := mz_rc_sa rs (j := j) (k := k) i.toNatClampNeg v hj (by rw [ht]) (by rw [ht]; exact h1)
  rw [ht] at hc
  have hu := mz_RH_upa (q := q) (sz := sz) (rs := rs) (rs' := mz_sa rs k i.toNatClampNeg v) rfl hc.1 hc.2
  simp only [mz_sI, mz_ar, e, if_true, mz_sA, hu]
theorem mz_RH_wj {q sz : Nat} {rs : mz_RS} {j k n : Nat} (hj : j < 34) (ht : mz_tab j = (k, 1, n)) (i : Int32) (v : Int64) : mz_sJ (mz_RH q sz rs) (some (q + (j + 1))) i v = if mz_ix i n then some (mz_RH q sz (mz_sj rs k i.toNatClampNeg v)) else none := by
  have e : (mz_RH q sz rs).1 (q + (j + 1)) = some (.inl (1, n, .inr (.inl (rs.2.2 k)))) := by rw [mz_RH_at, mz_rc, if_pos hj, ht, mz_rx, if_pos rfl]
  have hc := mz_rc_sj rs (j := j) (k := k) i.toNatClampNeg v hj (by rw [ht]) (by rw [ht])
  rw [ht] at hc
  have hu := mz_RH_upa (q := q) (sz := sz) (rs := rs) (rs' := mz_sj rs k i.toNatClampNeg v) rfl hc.1 hc.2
  simp only [mz_sJ, mz_ar, e, if_true, mz_sA, hu]
theorem mz_RH_is (q sz : Nat) (rs : mz_RS) : mz_is (mz_RH q sz rs) (some q) 11 = true := by simp [mz_is, mz_RH_self]
theorem mz_RH_sz (q sz : Nat) (rs : mz_RS) : (mz_RH q sz rs).2 = sz := rfl
theorem rg_0 (q sz : Nat) (rs : mz_RS) : mz_fI (mz_RH q sz rs) (some q) 11 0 = some (rs.1 0) := by simp only [mz_fI, mz_fv, mz_RH_self, if_true]; rfl
theorem rp_0 (q sz : Nat) (rs : mz_RS) (v : Int32) : mz_pF (mz_RH q sz rs) (some q) 11 0 (.int v) = some (mz_RH q sz (mz_si rs 0 v)) := by
  have hu := mz_RH_upf (q := q) (sz := sz) (rs := rs) (rs' := mz_si rs 0 v) (fs := (mz_rf q rs).set 0 (.int v)) rfl (fun _ => rfl)
  have hl : 0 < (mz_rf q rs).length := Nat.lt_of_lt_of_eq (by decide : 0 < 52) rfl
  simp only [mz_pF, mz_RH_self, hl, and_self, if_true, hu]
theorem rg_1 (q sz : Nat) (rs : mz_RS) : mz_fI (mz_RH q sz rs) (some q) 11 1 = some (rs.1 1) := by simp only [mz_fI, mz_fv, mz_RH_self, if_true]; rfl
theorem rp_1 (q sz : Nat) (rs : mz_RS) (v : Int32) : mz_pF (mz_RH q sz rs) (some q) 11 1 (.int v) = some (mz_RH q sz (mz_si rs 1 v)) := by
  have hu := mz_RH_upf (q := q) (sz := sz) (rs := rs) (rs' := mz_si rs 1 v) (fs := (mz_rf q rs).set 1 (.int v)) rfl (fun _ => rfl)
  have hl : 1 < (mz_rf q rs).length := Nat.lt_of_lt_of_eq (by decide : 1 < 52) rfl
  simp only [mz_pF, mz_RH_self, hl, and_self, if_true, hu]
theorem rg_2 (q sz : Nat) (rs : mz_RS) : mz_fI (mz_RH q sz rs) (some q) 11 2 = some (rs.1 2) := by simp only [mz_fI, mz_fv, mz_RH_self, if_true]; rfl
theorem rp_2 (q sz : Nat) (rs : mz_RS) (v : Int32) : mz_pF (mz_RH q sz rs) (some q) 11 2 (.int v) = some (mz_RH q sz (mz_si rs 2 v)) := by
  have hu := mz_RH_upf (q := q) (sz := sz) (rs := rs) (rs' := mz_si rs 2 v) (fs := (mz_rf q rs).set 2 (.int v)) rfl (fun _ => rfl)
  have hl : 2 < (mz_rf q rs).length := Nat.lt_of_lt_of_eq (by decide : 2 < 52) rfl
  simp only [mz_pF, mz_RH_self, hl, and_self, if_true, hu]
theorem rg_17 (q sz : Nat) (rs : mz_RS) : mz_fI (mz_RH q sz rs) (some q) 11 17 = some (rs.1 17) := by simp only [mz_fI, mz_fv, mz_RH_self, if_true]; rfl
theorem rp_17 (q sz : Nat) (rs : mz_RS) (v : Int32) : mz_pF (mz_RH q sz rs) (some q) 11 17 (.int v) = some (mz_RH q sz (mz_si rs 17 v)) := by
  have hu := mz_RH_upf (q := q) (sz := sz) (rs := rs) (rs' := mz_si rs 17 v) (fs := (mz_rf q rs).set 17 (.int v)) rfl (fun _ => rfl)
  have hl : 17 < (mz_rf q rs).length := Nat.lt_of_lt_of_eq (by decide : 17 < 52) rfl
  simp only [mz_pF, mz_RH_self, hl, and_self, if_true, hu]
theorem rg_20 (q sz : Nat) (rs : mz_RS) : mz_fI (mz_RH q sz rs) (some q) 11 20 = some (rs.1 20) := by simp only [mz_fI, mz_fv, mz_RH_self, if_true]; rfl
theorem rp_20 (q sz : Nat) (rs : mz_RS) (v : Int32) : mz_pF (mz_RH q sz rs) (some q) 11 20 (.int v) = some (mz_RH q sz (mz_si rs 20 v)) := by
  have hu := mz_RH_upf (q := q) (sz := sz) (rs := rs) (rs' := mz_si rs 20 v) (fs := (mz_rf q rs).set 20 (.int v)) rfl (fun _ => rfl)
  have hl : 20 < (mz_rf q rs).length := Nat.lt_of_lt_of_eq (by decide : 20 < 52) rfl
  simp only [mz_pF, mz_RH_self, hl, and_self, if_true, hu]
theorem rg_21 (q sz : Nat) (rs : mz_RS) : mz_fI (mz_RH q sz rs) (some q) 11 21 = some (rs.1 21) := by simp only [mz_fI, mz_fv, mz_RH_self, if_true]; rfl
theorem rp_21 (q sz : Nat) (rs : mz_RS) (v : Int32) : mz_pF (mz_RH q sz rs) (some q) 11 21 (.int v) = some (mz_RH q sz (mz_si rs 21 v)) := by
  have hu := mz_RH_upf (q := q) (sz := sz) (rs := rs) (rs' := mz_si rs 21 v) (fs := (mz_rf q rs).set 21 (.int v)) rfl (fun _ => rfl)
  have hl : 21 < (mz_rf q rs).length := Nat.lt_of_lt_of_eq (by decide : 21 < 52) rfl
  simp only [mz_pF, mz_RH_self, hl, and_self, if_true, hu]
theorem rg_22 (q sz : Nat) (rs : mz_RS) : mz_fI (mz_RH q sz rs) (some q) 11 22 = some (rs.1 22) := by simp only [mz_fI, mz_fv, mz_RH_self, if_true]; rfl
theorem rp_22 (q sz : Nat) (rs : mz_RS) (v : Int32) : mz_pF (mz_RH q sz rs) (some q) 11 22 (.int v) = some (mz_RH q sz (mz_si rs 22 v)) := by
  have hu := mz_RH_upf (q := q) (sz := sz) (rs := rs) (rs' := mz_si rs 22 v) (fs := (mz_rf q rs).set 22 (.int v)) rfl (fun _ => rfl)
  have hl : 22 < (mz_rf q rs).length := Nat.lt_of_lt_of_eq (by decide : 22 < 52) rfl
  simp only [mz_pF, mz_RH_self, hl, and_self, if_true, hu]
theorem rg_23 (q sz : Nat) (rs : mz_RS) : mz_fI (mz_RH q sz rs) (some q) 11 23 = some (rs.1 23) := by simp only [mz_fI, mz_fv, mz_RH_self, if_true]; rfl
theorem rp_23 (q sz : Nat) (rs : mz_RS) (v : Int32) : mz_pF (mz_RH q sz rs) (some q) 11 23 (.int v) = some (mz_RH q sz (mz_si rs 23 v)) := by
  have hu := mz_RH_upf (q := q) (sz := sz) (rs := rs) (rs' := mz_si rs 23 v) (fs := (mz_rf q rs).set 23 (.int v)) rfl (fun _ => rfl)
  have hl : 23 < (mz_rf q rs).length := Nat.lt_of_lt_of_eq (by decide : 23 < 52) rfl
  simp only [mz_pF, mz_RH_self, hl, and_self, if_true, hu]
theorem rg_24 (q sz : Nat) (rs : mz_RS) : mz_fI (mz_RH q sz rs) (some q) 11 24 = some (rs.1 24) := by simp only [mz_fI, mz_fv, mz_RH_self, if_true]; rfl
theorem rp_24 (q sz : Nat) (rs : mz_RS) (v : Int32) : mz_pF (mz_RH q sz rs) (some q) 11 24 (.int v) = some (mz_RH q sz (mz_si rs 24 v)) := by
  have hu := mz_RH_upf (q := q) (sz := sz) (rs := rs) (rs' := mz_si rs 24 v) (fs := (mz_rf q rs).set 24 (.int v)) rfl (fun _ => rfl)
  have hl : 24 < (mz_rf q rs).length := Nat.lt_of_lt_of_eq (by decide : 24 < 52) rfl
  simp only [mz_pF, mz_RH_self, hl, and_self, if_true, hu]
theorem rg_26 (q sz : Nat) (rs : mz_RS) : mz_fI (mz_RH q sz rs) (some q) 11 26 = some (rs.1 26) := by simp only [mz_fI, mz_fv, mz_RH_self, if_true]; rfl
theorem rp_26 (q sz : Nat) (rs : mz_RS) (v : Int32) : mz_pF (mz_RH q sz rs) (some q) 11 26 (.int v) = some (mz_RH q sz (mz_si rs 26 v)) := by
  have hu := mz_RH_upf (q := q) (sz := sz) (rs := rs) (rs' := mz_si rs 26 v) (fs := (mz_rf q rs).set 26 (.int v)) rfl (fun _ => rfl)
  have hl : 26 < (mz_rf q rs).length := Nat.lt_of_lt_of_eq (by decide : 26 < 52) rfl
  simp only [mz_pF, mz_RH_self, hl, and_self, if_true, hu]
theorem rg_27 (q sz : Nat) (rs : mz_RS) : mz_fI (mz_RH q sz rs) (some q) 11 27 = some (rs.1 27) := by simp only [mz_fI, mz_fv, mz_RH_self, if_true]; rfl
theorem rp_27 (q sz : Nat) (rs : mz_RS) (v : Int32) : mz_pF (mz_RH q sz rs) (some q) 11 27 (.int v) = some (mz_RH q sz (mz_si rs 27 v)) := by
  have hu := mz_RH_upf (q := q) (sz := sz) (rs := rs) (rs' := mz_si rs 27 v) (fs := (mz_rf q rs).set 27 (.int v)) rfl (fun _ => rfl)
  have hl : 27 < (mz_rf q rs).length := Nat.lt_of_lt_of_eq (by decide : 27 < 52) rfl
  simp only [mz_pF, mz_RH_self, hl, and_self, if_true, hu]
theorem rg_28 (q sz : Nat) (rs : mz_RS) : mz_fI (mz_RH q sz rs) (some q) 11 28 = some (rs.1 28) := by simp only [mz_fI, mz_fv, mz_RH_self, if_true]; rfl
theorem rp_28 (q sz : Nat) (rs : mz_RS) (v : Int32) : mz_pF (mz_RH q sz rs) (some q) 11 28 (.int v) = some (mz_RH q sz (mz_si rs 28 v)) := by
  have hu := mz_RH_upf (q := q) (sz := sz) (rs := rs) (rs' := mz_si rs 28 v) (fs := (mz_rf q rs).set 28 (.int v)) rfl (fun _ => rfl)
  have hl : 28 < (mz_rf q rs).length := Nat.lt_of_lt_of_eq (by decide : 28 < 52) rfl
  simp only [mz_pF, mz_RH_self, hl, and_self, if_true, hu]
theorem rg_29 (q sz : Nat) (rs : mz_RS) : mz_fI (mz_RH q sz rs) (some q) 11 29 = some (rs.1 29) := by simp only [mz_fI, mz_fv, mz_RH_self, if_true]; rfl
theorem rp_29 (q sz : Nat) (rs : mz_RS) (v : Int32) : mz_pF (mz_RH q sz rs) (some q) 11 29 (.int v) = some (mz_RH q sz (mz_si rs 29 v)) := by
  have hu := mz_RH_upf (q := q) (sz := sz) (rs := rs) (rs' := mz_si rs 29 v) (fs := (mz_rf q rs).set 29 (.int v)) rfl (fun _ => rfl)
  have hl : 29 < (mz_rf q rs).length := Nat.lt_of_lt_of_eq (by decide : 29 < 52) rfl
  simp only [mz_pF, mz_RH_self, hl, and_self, if_true, hu]
theorem rg_30 (q sz : Nat) (rs : mz_RS) : mz_fI (mz_RH q sz rs) (some q) 11 30 = some (rs.1 30) := by simp only [mz_fI, mz_fv, mz_RH_self, if_true]; rfl
theorem rp_30 (q sz : Nat) (rs : mz_RS) (v : Int32) : mz_pF (mz_RH q sz rs) (some q) 11 30 (.int v) = some (mz_RH q sz (mz_si rs 30 v)) := by
  have hu := mz_RH_upf (q := q) (sz := sz) (rs := rs) (rs' := mz_si rs 30 v) (fs := (mz_rf q rs).set 30 (.int v)) rfl (fun _ => rfl)
  have hl : 30 < (mz_rf q rs).length := Nat.lt_of_lt_of_eq (by decide : 30 < 52) rfl
  simp only [mz_pF, mz_RH_self, hl, and_self, if_true, hu]
theorem rg_32 (q sz : Nat) (rs : mz_RS) : mz_fI (mz_RH q sz rs) (some q) 11 32 = some (rs.1 32) := by simp only [mz_fI, mz_fv, mz_RH_self, if_true]; rfl
theorem rp_32 (q sz : Nat) (rs : mz_RS) (v : Int32) : mz_pF (mz_RH q sz rs) (some q) 11 32 (.int v) = some (mz_RH q sz (mz_si rs 32 v)) := by
  have hu := mz_RH_upf (q := q) (sz := sz) (rs := rs) (rs' := mz_si rs 32 v) (fs := (mz_rf q rs).set 32 (.int v)) rfl (fun _ => rfl)
  have hl : 32 < (mz_rf q rs).length := Nat.lt_of_lt_of_eq (by decide : 32 < 52) rfl
  simp only [mz_pF, mz_RH_self, hl, and_self, if_true, hu]
theorem rg_44 (q sz : Nat) (rs : mz_RS) : mz_fI (mz_RH q sz rs) (some q) 11 44 = some (rs.1 44) := by simp only [mz_fI, mz_fv, mz_RH_self, if_true]; rfl
theorem rp_44 (q sz : Nat) (rs : mz_RS) (v : Int32) : mz_pF (mz_RH q sz rs) (some q) 11 44 (.int v) = some (mz_RH q sz (mz_si rs 44 v)) := by
  have hu := mz_RH_upf (q := q) (sz := sz) (rs := rs) (rs' := mz_si rs 44 v) (fs := (mz_rf q rs).set 44 (.int v)) rfl (fun _ => rfl)
  have hl : 44 < (mz_rf q rs).length := Nat.lt_of_lt_of_eq (by decide : 44 < 52) rfl
  simp only [mz_pF, mz_RH_self, hl, and_self, if_true, hu]
theorem rg_45 (q sz : Nat) (rs : mz_RS) : mz_fI (mz_RH q sz rs) (some q) 11 45 = some (rs.1 45) := by simp only [mz_fI, mz_fv, mz_RH_self, if_true]; rfl
theorem rp_45 (q sz : Nat) (rs : mz_RS) (v : Int32) : mz_pF (mz_RH q sz rs) (some q) 11 45 (.int v) = some (mz_RH q sz (mz_si rs 45 v)) := by
  have hu := mz_RH_upf (q := q) (sz := sz) (rs := rs) (rs' := mz_si rs 45 v) (fs := (mz_rf q rs).set 45 (.int v)) rfl (fun _ => rfl)
  have hl : 45 < (mz_rf q rs).length := Nat.lt_of_lt_of_eq (by decide : 45 < 52) rfl
  simp only [mz_pF, mz_RH_self, hl, and_self, if_true, hu]
theorem rg_46 (q sz : Nat) (rs : mz_RS) : mz_fI (mz_RH q sz rs) (some q) 11 46 = some (rs.1 46) := by simp only [mz_fI, mz_fv, mz_RH_self, if_true]; rfl
theorem rp_46 (q sz : Nat) (rs : mz_RS) (v : Int32) : mz_pF (mz_RH q sz rs) (some q) 11 46 (.int v) = some (mz_RH q sz (mz_si rs 46 v)) := by
  have hu := mz_RH_upf (q := q) (sz := sz) (rs := rs) (rs' := mz_si rs 46 v) (fs := (mz_rf q rs).set 46 (.int v)) rfl (fun _ => rfl)
  have hl : 46 < (mz_rf q rs).length := Nat.lt_of_lt_of_eq (by decide : 46 < 52) rfl
  simp only [mz_pF, mz_RH_self, hl, and_self, if_true, hu]
theorem rr_3 (q sz : Nat) (rs : mz_RS) : mz_fR (mz_RH q sz rs) (some q) 11 3 = some (some (q + 1)) := by simp only [mz_fR, mz_fv, mz_RH_self, if_true]; rfl
theorem ra_3 (q sz : Nat) (rs : mz_RS) (i : Int32) : mz_aI (mz_RH q sz rs) (some (q + 1)) 0 i = if mz_ix i 40 then some (rs.2.1 3 i.toNatClampNeg) else none := mz_RH_ai (j := 0) (by decide) rfl (by decide) i
theorem rw_3 (q sz : Nat) (rs : mz_RS) (i v : Int32) : mz_sI (mz_RH q sz rs) (some (q + 1)) 0 i v = if mz_ix i 40 then some (mz_RH q sz (mz_sa rs 3 i.toNatClampNeg v)) else none := mz_RH_wi (j := 0) (by decide) rfl (by decide) i v
theorem rr_4 (q sz : Nat) (rs : mz_RS) : mz_fR (mz_RH q sz rs) (some q) 11 4 = some (some (q + 2)) := by simp only [mz_fR, mz_fv, mz_RH_self, if_true]; rfl
theorem ra_4 (q sz : Nat) (rs : mz_RS) (i : Int32) : mz_aI (mz_RH q sz rs) (some (q + 2)) 0 i = if mz_ix i 40 then some (rs.2.1 4 i.toNatClampNeg) else none := mz_RH_ai (j := 1) (by decide) rfl (by decide) i
theorem rw_4 (q sz : Nat) (rs : mz_RS) (i v : Int32) : mz_sI (mz_RH q sz rs) (some (q + 2)) 0 i v = if mz_ix i 40 then some (mz_RH q sz (mz_sa rs 4 i.toNatClampNeg v)) else none := mz_RH_wi (j := 1) (by decide) rfl (by decide) i v
theorem rr_5 (q sz : Nat) (rs : mz_RS) : mz_fR (mz_RH q sz rs) (some q) 11 5 = some (some (q + 3)) := by simp only [mz_fR, mz_fv, mz_RH_self, if_true]; rfl
theorem ra_5 (q sz : Nat) (rs : mz_RS) (i : Int32) : mz_aI (mz_RH q sz rs) (some (q + 3)) 0 i = if mz_ix i 40 then some (rs.2.1 5 i.toNatClampNeg) else none := mz_RH_ai (j := 2) (by decide) rfl (by decide) i
theorem rw_5 (q sz : Nat) (rs : mz_RS) (i v : Int32) : mz_sI (mz_RH q sz rs) (some (q + 3)) 0 i v = if mz_ix i 40 then some (mz_RH q sz (mz_sa rs 5 i.toNatClampNeg v)) else none := mz_RH_wi (j := 2) (by decide) rfl (by decide) i v
theorem rr_6 (q sz : Nat) (rs : mz_RS) : mz_fR (mz_RH q sz rs) (some q) 11 6 = some (some (q + 4)) := by simp only [mz_fR, mz_fv, mz_RH_self, if_true]; rfl
theorem ra_6 (q sz : Nat) (rs : mz_RS) (i : Int32) : mz_aI (mz_RH q sz rs) (some (q + 4)) 0 i = if mz_ix i 120 then some (rs.2.1 6 i.toNatClampNeg) else none := mz_RH_ai (j := 3) (by decide) rfl (by decide) i
theorem rw_6 (q sz : Nat) (rs : mz_RS) (i v : Int32) : mz_sI (mz_RH q sz rs) (some (q + 4)) 0 i v = if mz_ix i 120 then some (mz_RH q sz (mz_sa rs 6 i.toNatClampNeg v)) else none := mz_RH_wi (j := 3) (by decide) rfl (by decide) i v
theorem rr_7 (q sz : Nat) (rs : mz_RS) : mz_fR (mz_RH q sz rs) (some q) 11 7 = some (some (q + 5)) := by simp only [mz_fR, mz_fv, mz_RH_self, if_true]; rfl
theorem ra_7 (q sz : Nat) (rs : mz_RS) (i : Int32) : mz_aI (mz_RH q sz rs) (some (q + 5)) 0 i = if mz_ix i 40 then some (rs.2.1 7 i.toNatClampNeg) else none := mz_RH_ai (j := 4) (by decide) rfl (by decide) i
theorem rw_7 (q sz : Nat) (rs : mz_RS) (i v : Int32) : mz_sI (mz_RH q sz rs) (some (q + 5)) 0 i v = if mz_ix i 40 then some (mz_RH q sz (mz_sa rs 7 i.toNatClampNeg v)) else none := mz_RH_wi (j := 4) (by decide) rfl (by decide) i v
theorem rr_8 (q sz : Nat) (rs : mz_RS) : mz_fR (mz_RH q sz rs) (some q) 11 8 = some (some (q + 6)) := by simp only [mz_fR, mz_fv, mz_RH_self, if_true]; rfl
theorem ra_8 (q sz : Nat) (rs : mz_RS) (i : Int32) : mz_aI (mz_RH q sz rs) (some (q + 6)) 0 i = if mz_ix i 80 then some (rs.2.1 8 i.toNatClampNeg) else none := mz_RH_ai (j := 5) (by decide) rfl (by decide) i
theorem rw_8 (q sz : Nat) (rs : mz_RS) (i v : Int32) : mz_sI (mz_RH q sz rs) (some (q + 6)) 0 i v = if mz_ix i 80 then some (mz_RH q sz (mz_sa rs 8 i.toNatClampNeg v)) else none := mz_RH_wi (j := 5) (by decide) rfl (by decide) i v
theorem rr_9 (q sz : Nat) (rs : mz_RS) : mz_fR (mz_RH q sz rs) (some q) 11 9 = some (some (q + 7)) := by simp only [mz_fR, mz_fv, mz_RH_self, if_true]; rfl
theorem ra_9 (q sz : Nat) (rs : mz_RS) (i : Int32) : mz_aI (mz_RH q sz rs) (some (q + 7)) 0 i = if mz_ix i 40 then some (rs.2.1 9 i.toNatClampNeg) else none := mz_RH_ai (j := 6) (by decide) rfl (by decide) i
theorem rw_9 (q sz : Nat) (rs : mz_RS) (i v : Int32) : mz_sI (mz_RH q sz rs) (some (q + 7)) 0 i v = if mz_ix i 40 then some (mz_RH q sz (mz_sa rs 9 i.toNatClampNeg v)) else none := mz_RH_wi (j := 6) (by decide) rfl (by decide) i v
theorem rr_10 (q sz : Nat) (rs : mz_RS) : mz_fR (mz_RH q sz rs) (some q) 11 10 = some (some (q + 8)) := by simp only [mz_fR, mz_fv, mz_RH_self, if_true]; rfl
theorem ra_10 (q sz : Nat) (rs : mz_RS) (i : Int32) : mz_aI (mz_RH q sz rs) (some (q + 8)) 2 i = if mz_ix i 3720 then some (rs.2.1 10 i.toNatClampNeg) else none := mz_RH_ai (j := 7) (by decide) rfl (by decide) i
theorem rw_10 (q sz : Nat) (rs : mz_RS) (i v : Int32) : mz_sI (mz_RH q sz rs) (some (q + 8)) 2 i v = if mz_ix i 3720 then some (mz_RH q sz (mz_sa rs 10 i.toNatClampNeg v)) else none := mz_RH_wi (j := 7) (by decide) rfl (by decide) i v
theorem rr_11 (q sz : Nat) (rs : mz_RS) : mz_fR (mz_RH q sz rs) (some q) 11 11 = some (some (q + 9)) := by simp only [mz_fR, mz_fv, mz_RH_self, if_true]; rfl
theorem ra_11 (q sz : Nat) (rs : mz_RS) (i : Int32) : mz_aI (mz_RH q sz rs) (some (q + 9)) 0 i = if mz_ix i 3720 then some (rs.2.1 11 i.toNatClampNeg) else none := mz_RH_ai (j := 8) (by decide) rfl (by decide) i
theorem rw_11 (q sz : Nat) (rs : mz_RS) (i v : Int32) : mz_sI (mz_RH q sz rs) (some (q + 9)) 0 i v = if mz_ix i 3720 then some (mz_RH q sz (mz_sa rs 11 i.toNatClampNeg v)) else none := mz_RH_wi (j := 8) (by decide) rfl (by decide) i v
theorem rr_12 (q sz : Nat) (rs : mz_RS) : mz_fR (mz_RH q sz rs) (some q) 11 12 = some (some (q + 10)) := by simp only [mz_fR, mz_fv, mz_RH_self, if_true]; rfl
theorem ra_12 (q sz : Nat) (rs : mz_RS) (i : Int32) : mz_aI (mz_RH q sz rs) (some (q + 10)) 0 i = if mz_ix i 3720 then some (rs.2.1 12 i.toNatClampNeg) else none := mz_RH_ai (j := 9) (by decide) rfl (by decide) i
theorem rw_12 (q sz : Nat) (rs : mz_RS) (i v : Int32) : mz_sI (mz_RH q sz rs) (some (q + 10)) 0 i v = if mz_ix i 3720 then some (mz_RH q sz (mz_sa rs 12 i.toNatClampNeg v)) else none := mz_RH_wi (j := 9) (by decide) rfl (by decide) i v
theorem rr_13 (q sz : Nat) (rs : mz_RS) : mz_fR (mz_RH q sz rs) (some q) 11 13 = some (some (q + 11)) := by simp only [mz_fR, mz_fv, mz_RH_self, if_true]; rfl
theorem ra_13 (q sz : Nat) (rs : mz_RS) (i : Int32) : mz_aI (mz_RH q sz rs) (some (q + 11)) 0 i = if mz_ix i 3720 then some (rs.2.1 13 i.toNatClampNeg) else none := mz_RH_ai (j := 10) (by decide) rfl (by decide) i
theorem rw_13 (q sz : Nat) (rs : mz_RS) (i v : Int32) : mz_sI (mz_RH q sz rs) (some (q + 11)) 0 i v = if mz_ix i 3720 then some (mz_RH q sz (mz_sa rs 13 i.toNatClampNeg v)) else none := mz_RH_wi (j := 10) (by decide) rfl (by decide) i v
theorem rr_14 (q sz : Nat) (rs : mz_RS) : mz_fR (mz_RH q sz rs) (some q) 11 14 = some (some (q + 12)) := by simp only [mz_fR, mz_fv, mz_RH_self, if_true]; rfl
theorem ra_14 (q sz : Nat) (rs : mz_RS) (i : Int32) : mz_aI (mz_RH q sz rs) (some (q + 12)) 2 i = if mz_ix i 40 then some (rs.2.1 14 i.toNatClampNeg) else none := mz_RH_ai (j := 11) (by decide) rfl (by decide) i
theorem rw_14 (q sz : Nat) (rs : mz_RS) (i v : Int32) : mz_sI (mz_RH q sz rs) (some (q + 12)) 2 i v = if mz_ix i 40 then some (mz_RH q sz (mz_sa rs 14 i.toNatClampNeg v)) else none := mz_RH_wi (j := 11) (by decide) rfl (by decide) i v
theorem rr_15 (q sz : Nat) (rs : mz_RS) : mz_fR (mz_RH q sz rs) (some q) 11 15 = some (some (q + 13)) := by simp only [mz_fR, mz_fv, mz_RH_self, if_true]; rfl
theorem ra_15 (q sz : Nat) (rs : mz_RS) (i : Int32) : mz_aI (mz_RH q sz rs) (some (q + 13)) 0 i = if mz_ix i 120 then some (rs.2.1 15 i.toNatClampNeg) else none := mz_RH_ai (j := 12) (by decide) rfl (by decide) i
theorem rw_15 (q sz : Nat) (rs : mz_RS) (i v : Int32) : mz_sI (mz_RH q sz rs) (some (q + 13)) 0 i v = if mz_ix i 120 then some (mz_RH q sz (mz_sa rs 15 i.toNatClampNeg v)) else none := mz_RH_wi (j := 12) (by decide) rfl (by decide) i v
theorem rr_16 (q sz : Nat) (rs : mz_RS) : mz_fR (mz_RH q sz rs) (some q) 11 16 = some (some (q + 14)) := by simp only [mz_fR, mz_fv, mz_RH_self, if_true]; rfl
theorem ra_16 (q sz : Nat) (rs : mz_RS) (i : Int32) : mz_aI (mz_RH q sz rs) (some (q + 14)) 0 i = if mz_ix i 40 then some (rs.2.1 16 i.toNatClampNeg) else none := mz_RH_ai (j := 13) (by decide) rfl (by decide) i
theorem rw_16 (q sz : Nat) (rs : mz_RS) (i v : Int32) : mz_sI (mz_RH q sz rs) (some (q + 14)) 0 i v = if mz_ix i 40 then some (mz_RH q sz (mz_sa rs 16 i.toNatClampNeg v)) else none := mz_RH_wi (j := 13) (by decide) rfl (by decide) i v
theorem rr_18 (q sz : Nat) (rs : mz_RS) : mz_fR (mz_RH q sz rs) (some q) 11 18 = some (some (q + 15)) := by simp only [mz_fR, mz_fv, mz_RH_self, if_true]; rfl
theorem ra_18 (q sz : Nat) (rs : mz_RS) (i : Int32) : mz_aI (mz_RH q sz rs) (some (q + 15)) 0 i = if mz_ix i 41 then some (rs.2.1 18 i.toNatClampNeg) else none := mz_RH_ai (j := 14) (by decide) rfl (by decide) i
theorem rw_18 (q sz : Nat) (rs : mz_RS) (i v : Int32) : mz_sI (mz_RH q sz rs) (some (q + 15)) 0 i v = if mz_ix i 41 then some (mz_RH q sz (mz_sa rs 18 i.toNatClampNeg v)) else none := mz_RH_wi (j := 14) (by decide) rfl (by decide) i v
theorem rr_19 (q sz : Nat) (rs : mz_RS) : mz_fR (mz_RH q sz rs) (some q) 11 19 = some (some (q + 16)) := by simp only [mz_fR, mz_fv, mz_RH_self, if_true]; rfl
theorem ra_19 (q sz : Nat) (rs : mz_RS) (i : Int32) : mz_aI (mz_RH q sz rs) (some (q + 16)) 0 i = if mz_ix i 41 then some (rs.2.1 19 i.toNatClampNeg) else none := mz_RH_ai (j := 15) (by decide) rfl (by decide) i
theorem rw_19 (q sz : Nat) (rs : mz_RS) (i v : Int32) : mz_sI (mz_RH q sz rs) (some (q + 16)) 0 i v = if mz_ix i 41 then some (mz_RH q sz (mz_sa rs 19 i.toNatClampNeg v)) else none := mz_RH_wi (j := 15) (by decide) rfl (by decide) i v
theorem rr_25 (q sz : Nat) (rs : mz_RS) : mz_fR (mz_RH q sz rs) (some q) 11 25 = some (some (q + 17)) := by simp only [mz_fR, mz_fv, mz_RH_self, if_true]; rfl
theorem ra_25 (q sz : Nat) (rs : mz_RS) (i : Int32) : mz_aI (mz_RH q sz rs) (some (q + 17)) 0 i = if mz_ix i 217 then some (rs.2.1 25 i.toNatClampNeg) else none := mz_RH_ai (j := 16) (by decide) rfl (by decide) i
theorem rw_25 (q sz : Nat) (rs : mz_RS) (i v : Int32) : mz_sI (mz_RH q sz rs) (some (q + 17)) 0 i v = if mz_ix i 217 then some (mz_RH q sz (mz_sa rs 25 i.toNatClampNeg v)) else none := mz_RH_wi (j := 16) (by decide) rfl (by decide) i v
theorem rr_31 (q sz : Nat) (rs : mz_RS) : mz_fR (mz_RH q sz rs) (some q) 11 31 = some (some (q + 18)) := by simp only [mz_fR, mz_fv, mz_RH_self, if_true]; rfl
theorem ra_31 (q sz : Nat) (rs : mz_RS) (i : Int32) : mz_aI (mz_RH q sz rs) (some (q + 18)) 0 i = if mz_ix i 217 then some (rs.2.1 31 i.toNatClampNeg) else none := mz_RH_ai (j := 17) (by decide) rfl (by decide) i
theorem rw_31 (q sz : Nat) (rs : mz_RS) (i v : Int32) : mz_sI (mz_RH q sz rs) (some (q + 18)) 0 i v = if mz_ix i 217 then some (mz_RH q sz (mz_sa rs 31 i.toNatClampNeg v)) else none := mz_RH_wi (j := 17) (by decide) rfl (by decide) i v
theorem rr_33 (q sz : Nat) (rs : mz_RS) : mz_fR (mz_RH q sz rs) (some q) 11 33 = some (some (q + 19)) := by simp only [mz_fR, mz_fv, mz_RH_self, if_true]; rfl
theorem ra_33 (q sz : Nat) (rs : mz_RS) (i : Int32) : mz_aI (mz_RH q sz rs) (some (q + 19)) 0 i = if mz_ix i 60 then some (rs.2.1 33 i.toNatClampNeg) else none := mz_RH_ai (j := 18) (by decide) rfl (by decide) i
theorem rw_33 (q sz : Nat) (rs : mz_RS) (i v : Int32) : mz_sI (mz_RH q sz rs) (some (q + 19)) 0 i v = if mz_ix i 60 then some (mz_RH q sz (mz_sa rs 33 i.toNatClampNeg v)) else none := mz_RH_wi (j := 18) (by decide) rfl (by decide) i v
theorem rr_34 (q sz : Nat) (rs : mz_RS) : mz_fR (mz_RH q sz rs) (some q) 11 34 = some (some (q + 20)) := by simp only [mz_fR, mz_fv, mz_RH_self, if_true]; rfl
theorem ra_34 (q sz : Nat) (rs : mz_RS) (i : Int32) : mz_aI (mz_RH q sz rs) (some (q + 20)) 0 i = if mz_ix i 60 then some (rs.2.1 34 i.toNatClampNeg) else none := mz_RH_ai (j := 19) (by decide) rfl (by decide) i
theorem rw_34 (q sz : Nat) (rs : mz_RS) (i v : Int32) : mz_sI (mz_RH q sz rs) (some (q + 20)) 0 i v = if mz_ix i 60 then some (mz_RH q sz (mz_sa rs 34 i.toNatClampNeg v)) else none := mz_RH_wi (j := 19) (by decide) rfl (by decide) i v
theorem rr_35 (q sz : Nat) (rs : mz_RS) : mz_fR (mz_RH q sz rs) (some q) 11 35 = some (some (q + 21)) := by simp only [mz_fR, mz_fv, mz_RH_self, if_true]; rfl
theorem ra_35 (q sz : Nat) (rs : mz_RS) (i : Int32) : mz_aI (mz_RH q sz rs) (some (q + 21)) 0 i = if mz_ix i 960 then some (rs.2.1 35 i.toNatClampNeg) else none := mz_RH_ai (j := 20) (by decide) rfl (by decide) i
theorem rw_35 (q sz : Nat) (rs : mz_RS) (i v : Int32) : mz_sI (mz_RH q sz rs) (some (q + 21)) 0 i v = if mz_ix i 960 then some (mz_RH q sz (mz_sa rs 35 i.toNatClampNeg v)) else none := mz_RH_wi (j := 20) (by decide) rfl (by decide) i v
theorem rr_36 (q sz : Nat) (rs : mz_RS) : mz_fR (mz_RH q sz rs) (some q) 11 36 = some (some (q + 22)) := by simp only [mz_fR, mz_fv, mz_RH_self, if_true]; rfl
theorem ra_36 (q sz : Nat) (rs : mz_RS) (i : Int32) : mz_aI (mz_RH q sz rs) (some (q + 22)) 0 i = if mz_ix i 960 then some (rs.2.1 36 i.toNatClampNeg) else none := mz_RH_ai (j := 21) (by decide) rfl (by decide) i
theorem rw_36 (q sz : Nat) (rs : mz_RS) (i v : Int32) : mz_sI (mz_RH q sz rs) (some (q + 22)) 0 i v = if mz_ix i 960 then some (mz_RH q sz (mz_sa rs 36 i.toNatClampNeg v)) else none := mz_RH_wi (j := 21) (by decide) rfl (by decide) i v
theorem rr_37 (q sz : Nat) (rs : mz_RS) : mz_fR (mz_RH q sz rs) (some q) 11 37 = some (some (q + 23)) := by simp only [mz_fR, mz_fv, mz_RH_self, if_true]; rfl
theorem ra_37 (q sz : Nat) (rs : mz_RS) (i : Int32) : mz_aI (mz_RH q sz rs) (some (q + 23)) 0 i = if mz_ix i 960 then some (rs.2.1 37 i.toNatClampNeg) else none := mz_RH_ai (j := 22) (by decide) rfl (by decide) i
theorem rw_37 (q sz : Nat) (rs : mz_RS) (i v : Int32) : mz_sI (mz_RH q sz rs) (some (q + 23)) 0 i v = if mz_ix i 960 then some (mz_RH q sz (mz_sa rs 37 i.toNatClampNeg v)) else none := mz_RH_wi (j := 22) (by decide) rfl (by decide) i v
theorem rr_38 (q sz : Nat) (rs : mz_RS) : mz_fR (mz_RH q sz rs) (some q) 11 38 = some (some (q + 24)) := by simp only [mz_fR, mz_fv, mz_RH_self, if_true]; rfl
theorem ra_38 (q sz : Nat) (rs : mz_RS) (i : Int32) : mz_aI (mz_RH q sz rs) (some (q + 24)) 0 i = if mz_ix i 960 then some (rs.2.1 38 i.toNatClampNeg) else none := mz_RH_ai (j := 23) (by decide) rfl (by decide) i
theorem rw_38 (q sz : Nat) (rs : mz_RS) (i v : Int32) : mz_sI (mz_RH q sz rs) (some (q + 24)) 0 i v = if mz_ix i 960 then some (mz_RH q sz (mz_sa rs 38 i.toNatClampNeg v)) else none := mz_RH_wi (j := 23) (by decide) rfl (by decide) i v
theorem rr_39 (q sz : Nat) (rs : mz_RS) : mz_fR (mz_RH q sz rs) (some q) 11 39 = some (some (q + 25)) := by simp only [mz_fR, mz_fv, mz_RH_self, if_true]; rfl
theorem ra_39 (q sz : Nat) (rs : mz_RS) (i : Int32) : mz_aI (mz_RH q sz rs) (some (q + 25)) 2 i = if mz_ix i 960 then some (rs.2.1 39 i.toNatClampNeg) else none := mz_RH_ai (j := 24) (by decide) rfl (by decide) i
theorem rw_39 (q sz : Nat) (rs : mz_RS) (i v : Int32) : mz_sI (mz_RH q sz rs) (some (q + 25)) 2 i v = if mz_ix i 960 then some (mz_RH q sz (mz_sa rs 39 i.toNatClampNeg v)) else none := mz_RH_wi (j := 24) (by decide) rfl (by decide) i v
theorem rr_40 (q sz : Nat) (rs : mz_RS) : mz_fR (mz_RH q sz rs) (some q) 11 40 = some (some (q + 26)) := by simp only [mz_fR, mz_fv, mz_RH_self, if_true]; rfl
theorem ra_40 (q sz : Nat) (rs : mz_RS) (i : Int32) : mz_aI (mz_RH q sz rs) (some (q + 26)) 0 i = if mz_ix i 960 then some (rs.2.1 40 i.toNatClampNeg) else none := mz_RH_ai (j := 25) (by decide) rfl (by decide) i
theorem rw_40 (q sz : Nat) (rs : mz_RS) (i v : Int32) : mz_sI (mz_RH q sz rs) (some (q + 26)) 0 i v = if mz_ix i 960 then some (mz_RH q sz (mz_sa rs 40 i.toNatClampNeg v)) else none := mz_RH_wi (j := 25) (by decide) rfl (by decide) i v
theorem rr_41 (q sz : Nat) (rs : mz_RS) : mz_fR (mz_RH q sz rs) (some q) 11 41 = some (some (q + 27)) := by simp only [mz_fR, mz_fv, mz_RH_self, if_true]; rfl
theorem ra_41 (q sz : Nat) (rs : mz_RS) (i : Int32) : mz_aI (mz_RH q sz rs) (some (q + 27)) 2 i = if mz_ix i 28800 then some (rs.2.1 41 i.toNatClampNeg) else none := mz_RH_ai (j := 26) (by decide) rfl (by decide) i
theorem rw_41 (q sz : Nat) (rs : mz_RS) (i v : Int32) : mz_sI (mz_RH q sz rs) (some (q + 27)) 2 i v = if mz_ix i 28800 then some (mz_RH q sz (mz_sa rs 41 i.toNatClampNeg v)) else none := mz_RH_wi (j := 26) (by decide) rfl (by decide) i v
theorem rr_42 (q sz : Nat) (rs : mz_RS) : mz_fR (mz_RH q sz rs) (some q) 11 42 = some (some (q + 28)) := by simp only [mz_fR, mz_fv, mz_RH_self, if_true]; rfl
theorem ra_42 (q sz : Nat) (rs : mz_RS) (i : Int32) : mz_aI (mz_RH q sz rs) (some (q + 28)) 0 i = if mz_ix i 28800 then some (rs.2.1 42 i.toNatClampNeg) else none := mz_RH_ai (j := 27) (by decide) rfl (by decide) i
theorem rw_42 (q sz : Nat) (rs : mz_RS) (i v : Int32) : mz_sI (mz_RH q sz rs) (some (q + 28)) 0 i v = if mz_ix i 28800 then some (mz_RH q sz (mz_sa rs 42 i.toNatClampNeg v)) else none := mz_RH_wi (j := 27) (by decide) rfl (by decide) i v
theorem rr_43 (q sz : Nat) (rs : mz_RS) : mz_fR (mz_RH q sz rs) (some q) 11 43 = some (some (q + 29)) := by simp only [mz_fR, mz_fv, mz_RH_self, if_true]; rfl
theorem ra_43 (q sz : Nat) (rs : mz_RS) (i : Int32) : mz_aJ (mz_RH q sz rs) (some (q + 29)) i = if mz_ix i 864000 then some (rs.2.2 43 i.toNatClampNeg) else none := mz_RH_aj (j := 28) (by decide) rfl i
theorem rw_43 (q sz : Nat) (rs : mz_RS) (i : Int32) (v : Int64) : mz_sJ (mz_RH q sz rs) (some (q + 29)) i v = if mz_ix i 864000 then some (mz_RH q sz (mz_sj rs 43 i.toNatClampNeg v)) else none := mz_RH_wj (j := 28) (by decide) rfl i v
theorem rr_47 (q sz : Nat) (rs : mz_RS) : mz_fR (mz_RH q sz rs) (some q) 11 47 = some (some (q + 30)) := by simp only [mz_fR, mz_fv, mz_RH_self, if_true]; rfl
theorem ra_47 (q sz : Nat) (rs : mz_RS) (i : Int32) : mz_aJ (mz_RH q sz rs) (some (q + 30)) i = if mz_ix i 60 then some (rs.2.2 47 i.toNatClampNeg) else none := mz_RH_aj (j := 29) (by decide) rfl i
theorem rw_47 (q sz : Nat) (rs : mz_RS) (i : Int32) (v : Int64) : mz_sJ (mz_RH q sz rs) (some (q + 30)) i v = if mz_ix i 60 then some (mz_RH q sz (mz_sj rs 47 i.toNatClampNeg v)) else none := mz_RH_wj (j := 29) (by decide) rfl i v
theorem rr_48 (q sz : Nat) (rs : mz_RS) : mz_fR (mz_RH q sz rs) (some q) 11 48 = some (some (q + 31)) := by simp only [mz_fR, mz_fv, mz_RH_self, if_true]; rfl
theorem ra_48 (q sz : Nat) (rs : mz_RS) (i : Int32) : mz_aJ (mz_RH q sz rs) (some (q + 31)) i = if mz_ix i 60 then some (rs.2.2 48 i.toNatClampNeg) else none := mz_RH_aj (j := 30) (by decide) rfl i
theorem rw_48 (q sz : Nat) (rs : mz_RS) (i : Int32) (v : Int64) : mz_sJ (mz_RH q sz rs) (some (q + 31)) i v = if mz_ix i 60 then some (mz_RH q sz (mz_sj rs 48 i.toNatClampNeg v)) else none := mz_RH_wj (j := 30) (by decide) rfl i v
theorem rr_49 (q sz : Nat) (rs : mz_RS) : mz_fR (mz_RH q sz rs) (some q) 11 49 = some (some (q + 32)) := by simp only [mz_fR, mz_fv, mz_RH_self, if_true]; rfl
theorem ra_49 (q sz : Nat) (rs : mz_RS) (i : Int32) : mz_aI (mz_RH q sz rs) (some (q + 32)) 0 i = if mz_ix i 4 then some (rs.2.1 49 i.toNatClampNeg) else none := mz_RH_ai (j := 31) (by decide) rfl (by decide) i
theorem rw_49 (q sz : Nat) (rs : mz_RS) (i v : Int32) : mz_sI (mz_RH q sz rs) (some (q + 32)) 0 i v = if mz_ix i 4 then some (mz_RH q sz (mz_sa rs 49 i.toNatClampNeg v)) else none := mz_RH_wi (j := 31) (by decide) rfl (by decide) i v
theorem rr_50 (q sz : Nat) (rs : mz_RS) : mz_fR (mz_RH q sz rs) (some q) 11 50 = some (some (q + 33)) := by simp only [mz_fR, mz_fv, mz_RH_self, if_true]; rfl
theorem ra_50 (q sz : Nat) (rs : mz_RS) (i : Int32) : mz_aI (mz_RH q sz rs) (some (q + 33)) 0 i = if mz_ix i 4 then some (rs.2.1 50 i.toNatClampNeg) else none := mz_RH_ai (j := 32) (by decide) rfl (by decide) i
theorem rw_50 (q sz : Nat) (rs : mz_RS) (i v : Int32) : mz_sI (mz_RH q sz rs) (some (q + 33)) 0 i v = if mz_ix i 4 then some (mz_RH q sz (mz_sa rs 50 i.toNatClampNeg v)) else none := mz_RH_wi (j := 32) (by decide) rfl (by decide) i v
theorem rr_51 (q sz : Nat) (rs : mz_RS) : mz_fR (mz_RH q sz rs) (some q) 11 51 = some (some (q + 34)) := by simp only [mz_fR, mz_fv, mz_RH_self, if_true]; rfl
theorem ra_51 (q sz : Nat) (rs : mz_RS) (i : Int32) : mz_aI (mz_RH q sz rs) (some (q + 34)) 0 i = if mz_ix i 32 then some (rs.2.1 51 i.toNatClampNeg) else none := mz_RH_ai (j := 33) (by decide) rfl (by decide) i
theorem rw_51 (q sz : Nat) (rs : mz_RS) (i v : Int32) : mz_sI (mz_RH q sz rs) (some (q + 34)) 0 i v = if mz_ix i 32 then some (mz_RH q sz (mz_sa rs 51 i.toNatClampNeg v)) else none := mz_RH_wi (j := 33) (by decide) rfl (by decide) i v

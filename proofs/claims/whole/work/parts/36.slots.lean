/-! slots: what stays when one slot changes; tally, offer, variable, entry, lists' reads -/
/-- all but slot q is as it was -/
def mz_aw (rs rs' : mz_RS) (q : Nat) : Prop := rs'.2.1 34 = rs.2.1 34 ∧ (∀ p, p ≠ q → rs'.2.1 35 p = rs.2.1 35 p ∧ rs'.2.1 36 p = rs.2.1 36 p ∧ rs'.2.1 37 p = rs.2.1 37 p ∧ rs'.2.1 38 p = rs.2.1 38 p ∧ rs'.2.1 39 p = rs.2.1 39 p ∧ rs'.2.1 40 p = rs.2.1 40 p) ∧
  (∀ p i, p ≠ q → i < 30 → rs'.2.1 41 (30 * p + i) = rs.2.1 41 (30 * p + i) ∧ rs'.2.1 42 (30 * p + i) = rs.2.1 42 (30 * p + i)) ∧ (∀ p i, p ≠ q → i < 900 → rs'.2.2 43 (900 * p + i) = rs.2.2 43 (900 * p + i))
section
variable {VB : Nat} {n m : Nat} {rs : mz_RS} {ad : mz_T → Nat} {lv : Nat → Int32} {mk : Nat → Nat} {mm : Nat → Nat → Nat × Nat} {gi : Nat → Nat → Nat → Int32} {go : Nat → Nat → Option Nat} {gj : Nat → Nat → Int64} {h : mz_H}
theorem sl_aw {rs' : mz_RS} {q : Nat} (A : mz_aw rs rs' q) (o : Nat) : mz_sl rs' o = mz_sl rs o := by unfold mz_sl; rw [A.1]
theorem keep18 {rs' : mz_RS} {q : Nat} (A : mz_aw rs rs' q) (i j k : Nat) : mz_f18 n m rs' ad lv mk mm gi go gj i j k = mz_f18 n m rs ad lv mk mm gi go gj i j k := by
  unfold mz_f18
  rw [sl_aw A]
theorem rl_le (w : mz_wo n m rs) {o s : Nat} (ho : o < m) (hs : s < mz_sl rs o) : mz_rl rs (16 * o + s) ≤ 30 ∧ rs.2.1 40 (16 * o + s) = nI (mz_rl rs (16 * o + s)) := by
  obtain ⟨-, -, -, -, ⟨r, hr, e⟩, -⟩ := w.2.2.2.1 o s ho hs
  unfold mz_rl
  rw [e, cl_nI (by omega)]
  exact ⟨hr, rfl⟩
theorem keepS {rs' : mz_RS} (w : mz_wo n m rs) {o s : Nat} (hs16 : s < 16) (A : mz_aw rs rs' (16 * o + s)) (i j k : Nat) (hij : ¬ (i = o ∧ j = s)) :
    mz_f19 n m rs' ad lv mk mm gi go gj i j k = mz_f19 n m rs ad lv mk mm gi go gj i j k ∧ mz_f20 n m rs' ad lv mk mm gi go gj i j k = mz_f20 n m rs ad lv mk mm gi go gj i j k ∧ mz_f21 n m rs' ad lv mk mm gi go gj i j k = mz_f21 n m rs ad lv mk mm gi go gj i j k ∧ mz_f22 n m rs' ad lv mk mm gi go gj i j k = mz_f22 n m rs ad lv mk mm gi go gj i j k ∧ mz_f23 n m rs' ad lv mk mm gi go gj i j k = mz_f23 n m rs ad lv mk mm gi go gj i j k ∧ mz_f24 n m rs' ad lv mk mm gi go gj i j k = mz_f24 n m rs ad lv mk mm gi go gj i j k := by
  by_cases hl : i < m ∧ j < mz_sl rs i
  · have h16 := (mz_sl_le w hl.1).1
    have hq : 16 * i + j ≠ 16 * o + s := fun e => hij ⟨by omega, by omega⟩
    obtain ⟨a1, a2, a3, a4⟩ := A
    obtain ⟨b35, b36, b37, b38, b39, b40⟩ := a2 _ hq
    have hr30 := (rl_le w hl.1 hl.2).1
    have e34 : mz_sl rs' i = mz_sl rs i := by unfold mz_sl; rw [a1]
    have e40 : mz_rl rs' (16 * i + j) = mz_rl rs (16 * i + j) := by unfold mz_rl; rw [b40]
    refine ⟨?_, ?_, ?_, ?_, ?_, ?_⟩
    · unfold mz_f19
      rw [e34, b35, b36, b37, b38, b39]
    · unfold mz_f20
      rw [e34, b37, b39]
    · unfold mz_f21
      rw [e34, b37, b39, e40]
      have ef : (fun c => if c < mz_rl rs (16 * i + j) then rs'.2.2 43 (900 * (16 * i + j) + c) else 0) = (fun c => if c < mz_rl rs (16 * i + j) then rs.2.2 43 (900 * (16 * i + j) + c) else 0) := funext fun c => by
        by_cases hc : c < mz_rl rs (16 * i + j)
        · rw [if_pos hc, if_pos hc, a4 _ c hq (by omega)]
        · rw [if_neg hc, if_neg hc]
      rw [ef]
    · unfold mz_f22
      rw [e34, b37, b39, e40]
      have ef : (fun c => if c < mz_rl rs (16 * i + j) ∧ rs'.2.1 41 (30 * (16 * i + j) + c) = 1 then some (ad (23, i, j, c)) else none) = (fun c => if c < mz_rl rs (16 * i + j) ∧ rs.2.1 41 (30 * (16 * i + j) + c) = 1 then some (ad (23, i, j, c)) else none) := funext fun c => by
        by_cases hc : c < mz_rl rs (16 * i + j)
        · rw [(a3 _ c hq (by omega)).1]
        · rw [if_neg (fun z => hc z.1), if_neg (fun z => hc z.1)]
      rw [ef]
    · unfold mz_f23
      rw [e34, b37, b39, e40]
      by_cases hc : k < mz_rl rs (16 * i + j)
      · rw [(a3 _ k hq (by omega)).1]
      · rw [if_neg (fun z => hc z.2.2.2.2.1), if_neg (fun z => hc z.2.2.2.2.1)]
    · unfold mz_f24
      rw [e34, b37, b39, e40]
      by_cases hc : i < m ∧ j < mz_sl rs i ∧ rs.2.1 39 (16 * i + j) = 1 ∧ rs.2.1 37 (16 * i + j) = 2 ∧ k < mz_rl rs (16 * i + j) ∧ rs.2.1 41 (30 * (16 * i + j) + k) = 1
      · have hk : k < 30 := by omega
        obtain ⟨c1, c2⟩ := a3 _ k hq hk
        have ei : mz_il rs' (30 * (16 * i + j) + k) = mz_il rs (30 * (16 * i + j) + k) := by unfold mz_il; rw [c2]
        rw [c1, if_pos hc, if_pos hc, ei]
        obtain ⟨r, hr, er⟩ := (w.2.2.2.2.1 i j k hl.1 hl.2 hk hc.2.2.2.1 hc.2.2.1 hc.2.2.2.2.1).2 hc.2.2.2.2.2
        have hil : mz_il rs (30 * (16 * i + j) + k) ≤ 30 := by unfold mz_il; rw [er, cl_nI (by omega)]; exact hr
        have ef : (fun c => if c < mz_il rs (30 * (16 * i + j) + k) then rs'.2.2 43 (900 * (16 * i + j) + (30 * k + c)) else 0) = (fun c => if c < mz_il rs (30 * (16 * i + j) + k) then rs.2.2 43 (900 * (16 * i + j) + (30 * k + c)) else 0) := funext fun c => by
          by_cases hc : c < mz_il rs (30 * (16 * i + j) + k)
          · rw [if_pos hc, if_pos hc, a4 _ _ hq (by omega)]
          · rw [if_neg hc, if_neg hc]
        rw [ef]
      · by_cases hk : k < mz_rl rs (16 * i + j)
        · rw [(a3 _ k hq (by omega)).1, if_neg hc, if_neg hc]
        · rw [if_neg (fun z => hk z.2.2.2.2.1), if_neg (fun z => hk z.2.2.2.2.1)]
  · have e34 : mz_sl rs' i = mz_sl rs i := sl_aw A i
    have n1 : ∀ X : Prop, ¬ (i < m ∧ j < mz_sl rs i ∧ X) := fun X z => hl ⟨z.1, z.2.1⟩
    refine ⟨?_, ?_, ?_, ?_, ?_, ?_⟩
    · unfold mz_f19; rw [e34, if_neg (n1 _), if_neg (n1 _)]
    · unfold mz_f20; rw [e34, if_neg (n1 _), if_neg (n1 _)]
    · unfold mz_f21; rw [e34, if_neg (n1 _), if_neg (n1 _)]
    · unfold mz_f22; rw [e34, if_neg (n1 _), if_neg (n1 _)]
    · unfold mz_f23; rw [e34, if_neg (n1 _), if_neg (n1 _)]
    · unfold mz_f24; rw [e34, if_neg (n1 _), if_neg (n1 _)]
end

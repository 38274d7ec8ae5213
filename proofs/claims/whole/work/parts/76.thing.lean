/-! a thing more -/
def mz_tw (rs : mz_RS) (v : Int32) (X : Nat → Nat → Int32) (J : Nat → Int64) : mz_RS := (fun k => if k = 32 then v else rs.1 k, fun k => if Nat.ble 33 k && Nat.ble k 42 then X k else rs.2.1 k, fun k => if k = 43 then J else rs.2.2 k)
/-- slot q is as it was -/
def mz_sm (rs rs' : mz_RS) (q q' : Nat) : Prop := rs'.2.1 35 q' = rs.2.1 35 q ∧ rs'.2.1 36 q' = rs.2.1 36 q ∧ rs'.2.1 37 q' = rs.2.1 37 q ∧ rs'.2.1 38 q' = rs.2.1 38 q ∧ rs'.2.1 39 q' = rs.2.1 39 q ∧ rs'.2.1 40 q' = rs.2.1 40 q ∧ (∀ i, i < 30 → rs.2.1 39 q = 1 → rs.2.1 37 q = 2 → i < mz_rl rs q → rs'.2.1 41 (30 * q' + i) = rs.2.1 41 (30 * q + i) ∧ rs'.2.1 42 (30 * q' + i) = rs.2.1 42 (30 * q + i)) ∧ ∀ i, i < 900 → rs'.2.2 43 (900 * q' + i) = rs.2.2 43 (900 * q + i)
theorem sr_R.cong {n m : Nat} {rs rs' : mz_RS} {Q' o s b e : Nat} {p : Nat → Nat} {h : mz_H} (w : mz_wo n m rs) (ho : o < m) (hs : s < mz_sl rs o) (R : sr_R rs (16 * o + s) b p e h) (S : mz_sm rs rs' (16 * o + s) Q') : sr_R rs' Q' b p e h := by
  obtain ⟨b35, b36, b37, b38, b39, b40, b41, b43⟩ := S
  have h30 := (rl_le w ho hs).1
  have erl : mz_rl rs' Q' = mz_rl rs (16 * o + s) := by unfold mz_rl; rw [b40]
  obtain ⟨r0, r1, r2, r3⟩ := R
  refine ⟨r0, by rw [b35, b36, b37, b38, b39]; exact r1, fun h1 h2 => ?_, fun h1 h2 => ?_⟩
  · rw [b39] at h1
    rw [b37] at h2
    obtain ⟨a1, a2, a3⟩ := r2 h1 h2
    refine ⟨a1, a2, ?_⟩
    rw [a3, erl]
    refine congrArg (fun f => some (Sum.inl (1, mz_rl rs (16 * o + s), Sum.inr (Sum.inl f)))) (funext fun c => ?_)
    by_cases hc : c < mz_rl rs (16 * o + s)
    · rw [if_pos hc, if_pos hc, b43 c (by omega)]
    · rw [if_neg hc, if_neg hc]
  · rw [b39] at h1
    rw [b37] at h2
    obtain ⟨a1, a2, a3, a4⟩ := r3 h1 h2
    have e41 : ∀ c, c < mz_rl rs (16 * o + s) → rs'.2.1 41 (30 * Q' + c) = rs.2.1 41 (30 * (16 * o + s) + c) := fun c hc => (b41 c (by omega) h1 h2 hc).1
    refine ⟨a1, ?_, fun c hc hu => ?_, fun c c' h3 h4 u u' => ?_⟩
    · rw [a2, erl]
      refine congrArg (fun f => some (Sum.inl (14, mz_rl rs (16 * o + s), Sum.inr (Sum.inr (Sum.inr (Sum.inr f)))))) (funext fun c => ?_)
      by_cases hc : c < mz_rl rs (16 * o + s)
      · rw [e41 c hc]
      · rw [if_neg (fun z => hc z.1), if_neg (fun z => hc z.1)]
    · rw [erl] at hc
      rw [e41 c hc] at hu
      obtain ⟨q1, q2, q3, q4⟩ := a3 c hc hu
      have hil := (il_le w ho hs h1 h2 hc hu).1
      have eil : mz_il rs' (30 * Q' + c) = mz_il rs (30 * (16 * o + s) + c) := by unfold mz_il; rw [(b41 c (by omega) h1 h2 hc).2]
      refine ⟨q1, q2, q3, ?_⟩
      rw [q4, eil]
      refine congrArg (fun f => some (Sum.inl (1, mz_il rs (30 * (16 * o + s) + c), Sum.inr (Sum.inl f)))) (funext fun x => ?_)
      by_cases hx : x < mz_il rs (30 * (16 * o + s) + c)
      · rw [if_pos hx, if_pos hx, b43 _ (by omega)]
      · rw [if_neg hx, if_neg hx]
    · rw [erl] at h4
      rw [e41 c (by omega)] at u
      rw [e41 c' h4] at u'
      exact a4 c c' h3 h4 u u'
/-- the tags of slot j of the new thing, and where they are -/
def th_K (rs : mz_RS) (m j b : Nat) (p : Nat → Nat) (t : mz_T) (a : Nat) : Prop := (t = (19, m, j, 0) ∧ a = b) ∨ (rs.2.1 39 (16 * m + j) = 1 ∧ rs.2.1 37 (16 * m + j) ≠ 2 ∧ ((t = (20, m, j, 0) ∧ a = b + 1) ∨ (t = (21, m, j, 0) ∧ a = b + 2))) ∨ (rs.2.1 39 (16 * m + j) = 1 ∧ rs.2.1 37 (16 * m + j) = 2 ∧ ((t = (22, m, j, 0) ∧ a = b + 1) ∨ ∃ k, k < mz_rl rs (16 * m + j) ∧ rs.2.1 41 (30 * (16 * m + j) + k) = 1 ∧ ((t = (23, m, j, k) ∧ a = p k) ∨ (t = (24, m, j, k) ∧ a = p k + 1))))
theorem th_K.rng {rs : mz_RS} {m j b e a : Nat} {p : Nat → Nat} {t : mz_T} {h : mz_H} (R : sr_R rs (16 * m + j) b p e h) (K : th_K rs m j b p t a) : b ≤ a ∧ a < e ∧ t.2.1 = m ∧ t.2.2.1 = j ∧ 19 ≤ t.1 := by
  obtain ⟨r0, r1, r2, r3⟩ := R
  rcases K with ⟨rfl, rfl⟩ | ⟨h1, h2, ⟨rfl, rfl⟩ | ⟨rfl, rfl⟩⟩ | ⟨h1, h2, ⟨rfl, rfl⟩ | ⟨k, hk, hu, ⟨rfl, rfl⟩ | ⟨rfl, rfl⟩⟩⟩
  · exact ⟨by omega, by omega, rfl, rfl, by simp⟩
  · have := (r2 h1 h2).1
    exact ⟨by omega, by omega, rfl, rfl, by simp⟩
  · have := (r2 h1 h2).1
    exact ⟨by omega, by omega, rfl, rfl, by simp⟩
  · have := (r3 h1 h2).1
    exact ⟨by omega, by omega, rfl, rfl, by simp⟩
  · obtain ⟨q1, q2, -⟩ := (r3 h1 h2).2.2.1 k hk hu
    exact ⟨by omega, by omega, rfl, rfl, by simp⟩
  · obtain ⟨q1, q2, -⟩ := (r3 h1 h2).2.2.1 k hk hu
    exact ⟨by omega, by omega, rfl, rfl, by simp⟩
theorem th_K.inj {rs : mz_RS} {m j b e a : Nat} {p : Nat → Nat} {t t' : mz_T} {h : mz_H} (R : sr_R rs (16 * m + j) b p e h) (K : th_K rs m j b p t a) (K' : th_K rs m j b p t' a) : t = t' := by
  obtain ⟨r0, r1, r2, r3⟩ := R
  have q3 : ∀ k, rs.2.1 39 (16 * m + j) = 1 → rs.2.1 37 (16 * m + j) = 2 → k < mz_rl rs (16 * m + j) → rs.2.1 41 (30 * (16 * m + j) + k) = 1 → b + 2 ≤ p k := fun k h1 h2 hk hu => ((r3 h1 h2).2.2.1 k hk hu).1
  rcases K with ⟨rfl, rfl⟩ | ⟨h1, h2, ⟨rfl, rfl⟩ | ⟨rfl, rfl⟩⟩ | ⟨h1, h2, ⟨rfl, rfl⟩ | ⟨k, hk, hu, ⟨rfl, rfl⟩ | ⟨rfl, rfl⟩⟩⟩ <;>
  rcases K' with ⟨rfl, e'⟩ | ⟨g1, g2, ⟨rfl, e'⟩ | ⟨rfl, e'⟩⟩ | ⟨g1, g2, ⟨rfl, e'⟩ | ⟨k', hk', hu', ⟨rfl, e'⟩ | ⟨rfl, e'⟩⟩⟩ <;> first | rfl | (exfalso; omega) | (exfalso; exact g2 h2) | (exfalso; exact h2 g2) | (exfalso; have := q3 k' g1 g2 hk' hu'; omega) | (exfalso; have := q3 k h1 h2 hk hu; omega) | skip
  all_goals
    have r4 := (r3 h1 h2).2.2.2
    rcases Nat.lt_trichotomy k k' with q | q | q
    · have := r4 k k' q hk' hu hu'
      exfalso
      omega
    · subst q
      first | rfl | (exfalso; omega)
    · have := r4 k' k q hk hu' hu
      exfalso
      omega
section
variable {VB : Nat} {n m : Nat} {rs : mz_RS} {ad : mz_T → Nat} {lv : Nat → Int32} {mk : Nat → Nat} {mm : Nat → Nat → Nat × Nat} {gi : Nat → Nat → Nat → Int32} {go : Nat → Nat → Option Nat} {gj : Nat → Nat → Int64} {h : mz_H}
theorem keepQ {rs' : mz_RS} {ad' : mz_T → Nat} (w : mz_wo n m rs) {i j : Nat} (hi : i < m) (e34 : rs'.2.1 34 i = rs.2.1 34 i) (S : j < mz_sl rs i → mz_sm rs rs' (16 * i + j) (16 * i + j)) (ea : ∀ f k', ad' (f, i, j, k') = ad (f, i, j, k')) (k : Nat) :
    mz_f19 n (m + 1) rs' ad' lv mk mm gi go gj i j k = mz_f19 n m rs ad lv mk mm gi go gj i j k ∧ mz_f20 n (m + 1) rs' ad' lv mk mm gi go gj i j k = mz_f20 n m rs ad lv mk mm gi go gj i j k ∧ mz_f21 n (m + 1) rs' ad' lv mk mm gi go gj i j k = mz_f21 n m rs ad lv mk mm gi go gj i j k ∧ mz_f22 n (m + 1) rs' ad' lv mk mm gi go gj i j k = mz_f22 n m rs ad lv mk mm gi go gj i j k ∧ mz_f23 n (m + 1) rs' ad' lv mk mm gi go gj i j k = mz_f23 n m rs ad lv mk mm gi go gj i j k ∧ mz_f24 n (m + 1) rs' ad' lv mk mm gi go gj i j k = mz_f24 n m rs ad lv mk mm gi go gj i j k := by
  have hi' : i < m + 1 := by omega
  have esl : mz_sl rs' i = mz_sl rs i := by unfold mz_sl; rw [e34]
  by_cases hl : j < mz_sl rs i
  · obtain ⟨b35, b36, b37, b38, b39, b40, b41, b43⟩ := S hl
    have hr30 := (rl_le w hi hl).1
    have e40 : mz_rl rs' (16 * i + j) = mz_rl rs (16 * i + j) := by unfold mz_rl; rw [b40]
    refine ⟨?_, ?_, ?_, ?_, ?_, ?_⟩
    · unfold mz_f19
      simp only [esl, b35, b36, b37, b38, b39, ea, hi, hi', true_and]
    · unfold mz_f20
      simp only [esl, b37, b39, ea, hi, hi', true_and]
    · unfold mz_f21
      have ef : (fun c => if c < mz_rl rs (16 * i + j) then rs'.2.2 43 (900 * (16 * i + j) + c) else 0) = (fun c => if c < mz_rl rs (16 * i + j) then rs.2.2 43 (900 * (16 * i + j) + c) else 0) := funext fun c => by
        by_cases hc : c < mz_rl rs (16 * i + j)
        · rw [if_pos hc, if_pos hc, b43 c (by omega)]
        · rw [if_neg hc, if_neg hc]
      simp only [esl, b37, b39, e40, hi, hi', true_and, ef]
    · unfold mz_f22
      simp only [esl, b37, b39, e40, ea, hi, hi', true_and]
      by_cases hz : j < mz_sl rs i ∧ k = 0 ∧ rs.2.1 39 (16 * i + j) = 1 ∧ rs.2.1 37 (16 * i + j) = 2
      · rw [if_pos hz, if_pos hz]
        refine congrArg (fun f => some (Sum.inl (14, mz_rl rs (16 * i + j), Sum.inr (Sum.inr (Sum.inr (Sum.inr f)))))) (funext fun c => ?_)
        by_cases hc : c < mz_rl rs (16 * i + j)
        · rw [(b41 c (by omega) hz.2.2.1 hz.2.2.2 hc).1]
        · rw [if_neg (fun z => hc z.1), if_neg (fun z => hc z.1)]
      · rw [if_neg hz, if_neg hz]
    · unfold mz_f23
      simp only [esl, b37, b39, e40, ea, hi, hi', true_and]
      by_cases hz : j < mz_sl rs i ∧ rs.2.1 39 (16 * i + j) = 1 ∧ rs.2.1 37 (16 * i + j) = 2 ∧ k < mz_rl rs (16 * i + j)
      · rw [(b41 k (by omega) hz.2.1 hz.2.2.1 hz.2.2.2).1]
      · rw [if_neg (fun z => hz ⟨z.1, z.2.1, z.2.2.1, z.2.2.2.1⟩), if_neg (fun z => hz ⟨z.1, z.2.1, z.2.2.1, z.2.2.2.1⟩)]
    · unfold mz_f24
      simp only [esl, b37, b39, e40, hi, hi', true_and]
      by_cases hz : j < mz_sl rs i ∧ rs.2.1 39 (16 * i + j) = 1 ∧ rs.2.1 37 (16 * i + j) = 2 ∧ k < mz_rl rs (16 * i + j) ∧ rs.2.1 41 (30 * (16 * i + j) + k) = 1
      · obtain ⟨c1, c2⟩ := b41 k (by omega) hz.2.1 hz.2.2.1 hz.2.2.2.1
        have hil := (il_le w hi hl hz.2.1 hz.2.2.1 hz.2.2.2.1 hz.2.2.2.2).1
        have ei : mz_il rs' (30 * (16 * i + j) + k) = mz_il rs (30 * (16 * i + j) + k) := by unfold mz_il; rw [c2]
        rw [c1, if_pos hz, if_pos hz, ei]
        refine congrArg (fun f => some (Sum.inl (1, mz_il rs (30 * (16 * i + j) + k), Sum.inr (Sum.inl f)))) (funext fun c => ?_)
        by_cases hc : c < mz_il rs (30 * (16 * i + j) + k)
        · rw [if_pos hc, if_pos hc, b43 _ (by omega)]
        · rw [if_neg hc, if_neg hc]
      · by_cases hk : rs.2.1 39 (16 * i + j) = 1 ∧ rs.2.1 37 (16 * i + j) = 2 ∧ k < mz_rl rs (16 * i + j)
        · rw [(b41 k (by omega) hk.1 hk.2.1 hk.2.2).1, if_neg hz, if_neg hz]
        · rw [if_neg (fun z => hk ⟨z.2.1, z.2.2.1, z.2.2.2.1⟩), if_neg (fun z => hk ⟨z.2.1, z.2.2.1, z.2.2.2.1⟩)]
  · have n1 : ∀ X : Prop, ¬ (i < m ∧ j < mz_sl rs i ∧ X) := fun X z => hl z.2.1
    have n2 : ∀ X : Prop, ¬ (i < m + 1 ∧ j < mz_sl rs i ∧ X) := fun X z => hl z.2.1
    refine ⟨?_, ?_, ?_, ?_, ?_, ?_⟩
    · unfold mz_f19; rw [esl, if_neg (n1 _), if_neg (n2 _)]
    · unfold mz_f20; rw [esl, if_neg (n1 _), if_neg (n2 _)]
    · unfold mz_f21; rw [esl, if_neg (n1 _), if_neg (n2 _)]
    · unfold mz_f22; rw [esl, if_neg (n1 _), if_neg (n2 _)]
    · unfold mz_f23; rw [esl, if_neg (n1 _), if_neg (n2 _)]
    · unfold mz_f24; rw [esl, if_neg (n1 _), if_neg (n2 _)]
end

/-! a thing more: the whole heap -/
def mz_tA (ad : mz_T → Nat) (rs : mz_RS) (m S a1 : Nat) (bs : Nat → Nat) (ps : Nat → Nat → Nat) : mz_T → Nat := fun t =>
  if t.1 == 17 then (if t.2.1 == m && (t.2.2.1 == 0 && t.2.2.2 == 0) then a1 else ad t)
  else if t.1 == 18 then (if t.2.1 == m && (t.2.2.1 == 0 && t.2.2.2 == 0) then a1 + 1 else ad t)
  else if t.1 == 19 then (if t.2.1 == m && (decide (t.2.2.1 < S) && t.2.2.2 == 0) then bs t.2.2.1 else ad t)
  else if t.1 == 20 then (if t.2.1 == m && (decide (t.2.2.1 < S) && (t.2.2.2 == 0 && (decide (rs.2.1 39 (16 * m + t.2.2.1) = 1) && decide (rs.2.1 37 (16 * m + t.2.2.1) ≠ 2)))) then bs t.2.2.1 + 1 else ad t)
  else if t.1 == 21 then (if t.2.1 == m && (decide (t.2.2.1 < S) && (t.2.2.2 == 0 && (decide (rs.2.1 39 (16 * m + t.2.2.1) = 1) && decide (rs.2.1 37 (16 * m + t.2.2.1) ≠ 2)))) then bs t.2.2.1 + 2 else ad t)
  else if t.1 == 22 then (if t.2.1 == m && (decide (t.2.2.1 < S) && (t.2.2.2 == 0 && (decide (rs.2.1 39 (16 * m + t.2.2.1) = 1) && decide (rs.2.1 37 (16 * m + t.2.2.1) = 2)))) then bs t.2.2.1 + 1 else ad t)
  else if t.1 == 23 then (if t.2.1 == m && (decide (t.2.2.1 < S) && ((decide (rs.2.1 39 (16 * m + t.2.2.1) = 1) && decide (rs.2.1 37 (16 * m + t.2.2.1) = 2)) && (decide (t.2.2.2 < mz_rl rs (16 * m + t.2.2.1)) && decide (rs.2.1 41 (30 * (16 * m + t.2.2.1) + t.2.2.2) = 1)))) then ps t.2.2.1 t.2.2.2 else ad t)
  else if t.1 == 24 then (if t.2.1 == m && (decide (t.2.2.1 < S) && ((decide (rs.2.1 39 (16 * m + t.2.2.1) = 1) && decide (rs.2.1 37 (16 * m + t.2.2.1) = 2)) && (decide (t.2.2.2 < mz_rl rs (16 * m + t.2.2.1)) && decide (rs.2.1 41 (30 * (16 * m + t.2.2.1) + t.2.2.2) = 1)))) then ps t.2.2.1 t.2.2.2 + 1 else ad t)
  else ad t
section
variable {ad : mz_T → Nat} {rs : mz_RS} {m S a1 : Nat} {bs : Nat → Nat} {ps : Nat → Nat → Nat}
theorem at_K {j a : Nat} {t : mz_T} (hj : j < S) (K : th_K rs m j (bs j) (ps j) t a) : mz_tA ad rs m S a1 bs ps t = a := by
  rcases K with ⟨rfl, rfl⟩ | ⟨h1, h2, ⟨rfl, rfl⟩ | ⟨rfl, rfl⟩⟩ | ⟨h1, h2, ⟨rfl, rfl⟩ | ⟨k, hk, hu, ⟨rfl, rfl⟩ | ⟨rfl, rfl⟩⟩⟩
  · simp [mz_tA, hj]
  · simp [mz_tA, hj, h1, h2]
  · simp [mz_tA, hj, h1, h2]
  · simp [mz_tA, hj, h1, h2]
  · simp [mz_tA, hj, h1, h2, hk, hu]
  · simp [mz_tA, hj, h1, h2, hk, hu]
theorem at_17 : mz_tA ad rs m S a1 bs ps (17, m, 0, 0) = a1 := by simp [mz_tA]
theorem at_18 : mz_tA ad rs m S a1 bs ps (18, m, 0, 0) = a1 + 1 := by simp [mz_tA]
theorem at_i {f i j k : Nat} (hi : i ≠ m) : mz_tA ad rs m S a1 bs ps (f, i, j, k) = ad (f, i, j, k) := by
  unfold mz_tA
  have : (i == m) = false := by simp [hi]
  simp only [this, Bool.false_and, Bool.false_eq_true, if_false, ite_self]
theorem at_no {t : mz_T} (h1 : t ≠ (17, m, 0, 0)) (h2 : t ≠ (18, m, 0, 0)) (h3 : ¬ ∃ j a, j < S ∧ th_K rs m j (bs j) (ps j) t a) : mz_tA ad rs m S a1 bs ps t = ad t := by
  obtain ⟨f, i, j, k⟩ := t
  by_cases hi : i = m
  case neg => exact at_i hi
  subst hi
  unfold mz_tA
  simp only
  split
  · rename_i hf
    obtain rfl := eq_of_beq hf
    rw [if_neg]
    intro z
    simp at z
    exact h1 (by rw [z.1, z.2])
  split
  · rename_i hf
    obtain rfl := eq_of_beq hf
    rw [if_neg]
    intro z
    simp at z
    exact h2 (by rw [z.1, z.2])
  split
  · rename_i hf
    obtain rfl := eq_of_beq hf
    rw [if_neg]
    intro z
    simp at z
    exact h3 ⟨j, _, z.1, Or.inl ⟨by rw [z.2], rfl⟩⟩
  split
  · rename_i hf
    obtain rfl := eq_of_beq hf
    rw [if_neg]
    intro z
    simp at z
    exact h3 ⟨j, _, z.1, Or.inr (Or.inl ⟨z.2.2.1, z.2.2.2, Or.inl ⟨by rw [z.2.1], rfl⟩⟩)⟩
  split
  · rename_i hf
    obtain rfl := eq_of_beq hf
    rw [if_neg]
    intro z
    simp at z
    exact h3 ⟨j, _, z.1, Or.inr (Or.inl ⟨z.2.2.1, z.2.2.2, Or.inr ⟨by rw [z.2.1], rfl⟩⟩)⟩
  split
  · rename_i hf
    obtain rfl := eq_of_beq hf
    rw [if_neg]
    intro z
    simp at z
    exact h3 ⟨j, _, z.1, Or.inr (Or.inr ⟨z.2.2.1, z.2.2.2, Or.inl ⟨by rw [z.2.1], rfl⟩⟩)⟩
  split
  · rename_i hf
    obtain rfl := eq_of_beq hf
    rw [if_neg]
    intro z
    simp at z
    exact h3 ⟨j, _, z.1, Or.inr (Or.inr ⟨z.2.1.1, z.2.1.2, Or.inr ⟨k, z.2.2.1, z.2.2.2, Or.inl ⟨rfl, rfl⟩⟩⟩)⟩
  split
  · rename_i hf
    obtain rfl := eq_of_beq hf
    rw [if_neg]
    intro z
    simp at z
    exact h3 ⟨j, _, z.1, Or.inr (Or.inr ⟨z.2.1.1, z.2.1.2, Or.inr ⟨k, z.2.2.1, z.2.2.2, Or.inr ⟨rfl, rfl⟩⟩⟩)⟩
  rfl
end
theorem bs_mono {bs : Nat → Nat} {S : Nat} (hm : ∀ s, s < S → bs s ≤ bs (s + 1)) : ∀ d s, s + d ≤ S → bs s ≤ bs (s + d) := by
  intro d
  induction d with
  | zero => exact fun _ _ => Nat.le_refl _
  | succ d ih => exact fun s hs => Nat.le_trans (ih s (by omega)) (hm (s + d) (by omega))
section
variable {VB : Nat} {n m : Nat} {rs : mz_RS} {ad : mz_T → Nat} {lv : Nat → Int32} {mk : Nat → Nat} {mm : Nat → Nat → Nat × Nat} {gi : Nat → Nat → Nat → Int32} {go : Nat → Nat → Option Nat} {gj : Nat → Nat → Int64} {hb : mz_H}
theorem mz_Rp.thing (hR : mz_Rp VB n m rs ad lv mk mm gi go gj hb) (w : mz_wo n m rs) {S : Nat} {X : Nat → Nat → Int32} {J : Nat → Int64} {h' : mz_H} {bs : Nat → Nat} {ps : Nat → Nat → Nat} (z2 : h'.2 ≤ VB) (zb : hb.2 + 2 ≤ bs 0) (zS : bs S ≤ h'.2) (zh : hb.2 + 2 ≤ h'.2) (hm : ∀ s, s < S → bs s ≤ bs (s + 1)) (hS : S ≤ 16)
    (x33 : ∀ o, o < m → X 33 o = rs.2.1 33 o) (x34 : ∀ o, o < m → X 34 o = rs.2.1 34 o) (xm : X 34 m = nI S) (sm : ∀ o s, o < m → s < mz_sl rs o → mz_sm rs (mz_tw rs (nI (m + 1)) X J) (16 * o + s) (16 * o + s)) (sr : sr_S (mz_tw rs (nI (m + 1)) X J) m S bs ps h')
    (c17 : h'.1 hb.2 = some (.inr (7, [.int (X 33 m), .ref (hb.2 + 1)]))) (c18 : h'.1 (hb.2 + 1) = some (.inl (15, S, .inr (.inr (.inr (.inr (fun c => if c < S then some (bs c) else none))))))) (c16 : h'.1 (ad (16, 0, 0, 0)) = some (.inl (17, 60, .inr (.inr (.inr (.inr (va_up (fun c => if c < m then some (ad (17, c, 0, 0)) else none) m (some hb.2))))))))
    (c1 : h'.1 (ad (1, 0, 0, 0)) = some (.inr (10, [.ref (ad (2, 0, 0, 0)), .ref (ad (12, 0, 0, 0)), .ref (ad (12, 1, 0, 0)), .ref (ad (16, 0, 0, 0)), .int (nI (m + 1)), .ref (ad (25, 0, 0, 0)), .ref (ad (25, 1, 0, 0)), .ref (ad (27, 0, 0, 0)), .int (rs.1 0), .int (rs.1 1)]))) (old : ∀ a, a < hb.2 → a ≠ ad (1, 0, 0, 0) → a ≠ ad (16, 0, 0, 0) → h'.1 a = hb.1 a) :
    mz_Rp VB n (m + 1) (mz_tw rs (nI (m + 1)) X J) (mz_tA ad (mz_tw rs (nI (m + 1)) X J) m S hb.2 bs ps) lv mk mm gi go gj h' := by
  have mo := bs_mono hm
  have b0 : ∀ s, s ≤ S → bs 0 ≤ bs s := fun s hs => by have := mo s 0 (by omega); rwa [Nat.zero_add] at this
  have bS : ∀ s, s ≤ S → bs s ≤ bs S := fun s hs => by have := mo (S - s) s (by omega); rwa [Nat.add_sub_cancel' hs] at this
  have esl : mz_sl (mz_tw rs (nI (m + 1)) X J) m = S := by
    show (X 34 m).toNatClampNeg = S
    rw [xm, cl_nI (by omega)]
  have kr : ∀ {j a : Nat} {t : mz_T}, j < S → th_K (mz_tw rs (nI (m + 1)) X J) m j (bs j) (ps j) t a → bs j ≤ a ∧ a < bs (j + 1) ∧ t.2.1 = m ∧ t.2.2.1 = j ∧ 19 ≤ t.1 := fun hj K => K.rng (sr _ hj)
  refine hR.bulk (fun t => t = (17, m, 0, 0) ∨ t = (18, m, 0, 0) ∨ ∃ j a, j < S ∧ th_K (mz_tw rs (nI (m + 1)) X J) m j (bs j) (ps j) t a) (fun t => t = (1, 0, 0, 0) ∨ t = (16, 0, 0, 0)) (by omega) z2 (fun t ht => ?_) (fun t ht => ?_) (fun t t' q1 q2 e => ?_) (fun a ha hC => ?_) (fun f i j k e hN he => ?_) (fun f i j k e hC _ he => ?_) ?_
  · exact at_no (fun z => ht (Or.inl z)) (fun z => ht (Or.inr (Or.inl z))) (fun z => ht (Or.inr (Or.inr z)))
  · rcases ht with rfl | rfl | ⟨j, a, hj, K⟩
    · rw [at_17]; omega
    · rw [at_18]; omega
    · rw [at_K hj K]
      have := kr hj K
      have := b0 j (by omega)
      have := bS (j + 1) (by omega)
      omega
  · rcases q1 with rfl | rfl | ⟨j, a, hj, K⟩ <;> rcases q2 with rfl | rfl | ⟨j', a', hj', K'⟩
    · rfl
    · rw [at_17, at_18] at e; omega
    · rw [at_17, at_K hj' K'] at e
      have := kr hj' K'
      have := b0 j' (by omega)
      omega
    · rw [at_17, at_18] at e; omega
    · rfl
    · rw [at_18, at_K hj' K'] at e
      have := kr hj' K'
      have := b0 j' (by omega)
      omega
    · rw [at_17, at_K hj K] at e
      have := kr hj K
      have := b0 j (by omega)
      omega
    · rw [at_18, at_K hj K] at e
      have := kr hj K
      have := b0 j (by omega)
      omega
    · rw [at_K hj K, at_K hj' K'] at e
      subst e
      obtain ⟨u1, u2, -⟩ := kr hj K
      obtain ⟨v1, v2, -⟩ := kr hj' K'
      rcases Nat.lt_trichotomy j j' with q | q | q
      · have := mo (j' - (j + 1)) (j + 1) (by omega)
        rw [Nat.add_sub_cancel' (by omega : j + 1 ≤ j')] at this
        omega
      · subst q
        exact K.inj (sr _ hj) K'
      · have := mo (j - (j' + 1)) (j' + 1) (by omega)
        rw [Nat.add_sub_cancel' (by omega : j' + 1 ≤ j)] at this
        omega
  · exact old a ha (hC _ (Or.inl rfl)) (hC _ (Or.inr rfl))
  · rcases hN with q | q | ⟨s, a, hs, K⟩
    · cases q
      have he' : mz_f17 n (m + 1) (mz_tw rs (nI (m + 1)) X J) (mz_tA ad (mz_tw rs (nI (m + 1)) X J) m S hb.2 bs ps) lv mk mm gi go gj m 0 0 = some e := he
      rw [mz_f17, if_pos ⟨Nat.lt_succ_self m, rfl, rfl⟩, at_18] at he'
      cases he'
      rw [at_17, c17]
      rfl
    · cases q
      have he' : mz_f18 n (m + 1) (mz_tw rs (nI (m + 1)) X J) (mz_tA ad (mz_tw rs (nI (m + 1)) X J) m S hb.2 bs ps) lv mk mm gi go gj m 0 0 = some e := he
      rw [mz_f18, if_pos ⟨Nat.lt_succ_self m, rfl, rfl⟩, esl] at he'
      cases he'
      rw [at_18, c18]
      refine congrArg (fun f => some (Sum.inl (15, S, Sum.inr (Sum.inr (Sum.inr (Sum.inr f)))))) (funext fun c => ?_)
      by_cases hc : c < S
      · rw [if_pos hc, if_pos hc, at_K hc (Or.inl ⟨rfl, rfl⟩)]
      · rw [if_neg hc, if_neg hc]
    · rw [at_K hs K]
      obtain ⟨r0, r1, r2, r3⟩ := sr s hs
      have cm : m < m + 1 := Nat.lt_succ_self m
      have cs : s < mz_sl (mz_tw rs (nI (m + 1)) X J) m := by rw [esl]; exact hs
      rcases K with ⟨q, rfl⟩ | ⟨h1, h2, ⟨q, rfl⟩ | ⟨q, rfl⟩⟩ | ⟨h1, h2, ⟨q, rfl⟩ | ⟨kk, hk, hu, ⟨q, rfl⟩ | ⟨q, rfl⟩⟩⟩
      · cases q
        have he' : mz_f19 n (m + 1) (mz_tw rs (nI (m + 1)) X J) (mz_tA ad (mz_tw rs (nI (m + 1)) X J) m S hb.2 bs ps) lv mk mm gi go gj m j 0 = some e := he
        rw [mz_f19, if_pos ⟨cm, cs, rfl⟩] at he'
        rw [r1, ← he']
        by_cases h1 : (mz_tw rs (nI (m + 1)) X J).2.1 39 (16 * m + j) = 1
        · by_cases h2 : (mz_tw rs (nI (m + 1)) X J).2.1 37 (16 * m + j) = 2
          · have n4 : ¬ ((mz_tw rs (nI (m + 1)) X J).2.1 39 (16 * m + j) = 1 ∧ (mz_tw rs (nI (m + 1)) X J).2.1 37 (16 * m + j) ≠ 2) := fun z => z.2 h2
            rw [at_K (t := (22, m, j, 0)) hs (Or.inr (Or.inr ⟨h1, h2, Or.inl ⟨rfl, rfl⟩⟩)), if_neg n4, if_neg n4]
          · rw [at_K (t := (20, m, j, 0)) hs (Or.inr (Or.inl ⟨h1, h2, Or.inl ⟨rfl, rfl⟩⟩)), if_neg (c := (mz_tw rs (nI (m + 1)) X J).2.1 39 (16 * m + j) = 1 ∧ (mz_tw rs (nI (m + 1)) X J).2.1 37 (16 * m + j) = 2) (fun z => h2 z.2), if_neg (c := (mz_tw rs (nI (m + 1)) X J).2.1 39 (16 * m + j) = 1 ∧ (mz_tw rs (nI (m + 1)) X J).2.1 37 (16 * m + j) = 2) (fun z => h2 z.2)]
        · rw [if_neg (fun z => h1 z.1), if_neg (fun z => h1 z.1), if_neg (fun z => h1 z.1), if_neg (fun z => h1 z.1)]
      · cases q
        have he' : mz_f20 n (m + 1) (mz_tw rs (nI (m + 1)) X J) (mz_tA ad (mz_tw rs (nI (m + 1)) X J) m S hb.2 bs ps) lv mk mm gi go gj m j 0 = some e := he
        rw [mz_f20, if_pos ⟨cm, cs, rfl, h1, h2⟩, at_K (t := (21, m, j, 0)) hs (Or.inr (Or.inl ⟨h1, h2, Or.inr ⟨rfl, rfl⟩⟩))] at he'
        rw [← he']
        exact (r2 h1 h2).2.1
      · cases q
        have he' : mz_f21 n (m + 1) (mz_tw rs (nI (m + 1)) X J) (mz_tA ad (mz_tw rs (nI (m + 1)) X J) m S hb.2 bs ps) lv mk mm gi go gj m j 0 = some e := he
        rw [mz_f21, if_pos ⟨cm, cs, rfl, h1, h2⟩] at he'
        rw [← he']
        exact (r2 h1 h2).2.2
      · cases q
        have he' : mz_f22 n (m + 1) (mz_tw rs (nI (m + 1)) X J) (mz_tA ad (mz_tw rs (nI (m + 1)) X J) m S hb.2 bs ps) lv mk mm gi go gj m j 0 = some e := he
        rw [mz_f22, if_pos ⟨cm, cs, rfl, h1, h2⟩] at he'
        rw [← he', (r3 h1 h2).2.1]
        refine congrArg (fun f => some (Sum.inl (14, mz_rl (mz_tw rs (nI (m + 1)) X J) (16 * m + j), Sum.inr (Sum.inr (Sum.inr (Sum.inr f)))))) (funext fun c => ?_)
        by_cases hc : c < mz_rl (mz_tw rs (nI (m + 1)) X J) (16 * m + j) ∧ (mz_tw rs (nI (m + 1)) X J).2.1 41 (30 * (16 * m + j) + c) = 1
        · rw [if_pos hc, if_pos hc, at_K (t := (23, m, j, c)) hs (Or.inr (Or.inr ⟨h1, h2, Or.inr ⟨c, hc.1, hc.2, Or.inl ⟨rfl, rfl⟩⟩⟩))]
        · rw [if_neg hc, if_neg hc]
      · cases q
        have he' : mz_f23 n (m + 1) (mz_tw rs (nI (m + 1)) X J) (mz_tA ad (mz_tw rs (nI (m + 1)) X J) m S hb.2 bs ps) lv mk mm gi go gj m j k = some e := he
        rw [mz_f23, if_pos ⟨cm, cs, h1, h2, hk, hu⟩, at_K (t := (24, m, j, k)) hs (Or.inr (Or.inr ⟨h1, h2, Or.inr ⟨k, hk, hu, Or.inr ⟨rfl, rfl⟩⟩⟩))] at he'
        rw [← he']
        exact ((r3 h1 h2).2.2.1 k hk hu).2.2.1
      · cases q
        have he' : mz_f24 n (m + 1) (mz_tw rs (nI (m + 1)) X J) (mz_tA ad (mz_tw rs (nI (m + 1)) X J) m S hb.2 bs ps) lv mk mm gi go gj m j k = some e := he
        rw [mz_f24, if_pos ⟨cm, cs, h1, h2, hk, hu⟩] at he'
        rw [← he']
        exact ((r3 h1 h2).2.2.1 k hk hu).2.2.2
  · rcases hC with q | q
    · cases q
      have he' : mz_f1 n (m + 1) (mz_tw rs (nI (m + 1)) X J) (mz_tA ad (mz_tw rs (nI (m + 1)) X J) m S hb.2 bs ps) lv mk mm gi go gj 0 0 0 = some e := he
      rw [mz_f1, if_pos ⟨rfl, rfl, rfl⟩] at he'
      refine ⟨?_, cb_1 hR⟩
      rw [c1, ← he']
      rfl
    · cases q
      have he' : mz_f16 n (m + 1) (mz_tw rs (nI (m + 1)) X J) (mz_tA ad (mz_tw rs (nI (m + 1)) X J) m S hb.2 bs ps) lv mk mm gi go gj 0 0 0 = some e := he
      rw [mz_f16, if_pos ⟨rfl, rfl, rfl⟩] at he'
      refine ⟨?_, cb_16 hR⟩
      rw [c16, ← he']
      refine congrArg (fun f => some (Sum.inl (17, 60, Sum.inr (Sum.inr (Sum.inr (Sum.inr f)))))) (funext fun c => ?_)
      by_cases hc : c = m
      · subst hc
        rw [va_up_self, if_pos (Nat.lt_succ_self _), at_17]
      · rw [va_up_ne _ _ hc, at_i hc]
        by_cases hc2 : c < m
        · rw [if_pos hc2, if_pos (by omega)]
        · rw [if_neg hc2, if_neg (by omega)]
  · apply mz_hb
    case h1 =>
      intro i j k hq
      exact Or.inr (if_neg fun z => hq.2 (Or.inl (by rw [z.1, z.2.1, z.2.2])))
    case h2 => exact fun _ _ _ _ => Or.inl rfl
    case h3 => exact fun _ _ _ _ => Or.inl rfl
    case h4 => exact fun _ _ _ _ => Or.inl rfl
    case h5 => exact fun _ _ _ _ => Or.inl rfl
    case h6 => exact fun _ _ _ _ => Or.inl rfl
    case h7 => exact fun _ _ _ _ => Or.inl rfl
    case h8 => exact fun _ _ _ _ => Or.inl rfl
    case h9 => exact fun _ _ _ _ => Or.inl rfl
    case h10 => exact fun _ _ _ _ => Or.inl rfl
    case h11 => exact fun _ _ _ _ => Or.inl rfl
    case h12 => exact fun _ _ _ _ => Or.inl rfl
    case h13 => exact fun _ _ _ _ => Or.inl rfl
    case h14 => exact fun _ _ _ _ => Or.inl rfl
    case h15 => exact fun _ _ _ _ => Or.inl rfl
    case h25 => exact fun _ _ _ _ => Or.inl rfl
    case h26 => exact fun _ _ _ _ => Or.inl rfl
    case h27 => exact fun _ _ _ _ => Or.inl rfl
    case h28 => exact fun _ _ _ _ => Or.inl rfl
    case h29 => exact fun _ _ _ _ => Or.inl rfl
    case h16 =>
      intro i j k hq
      exact Or.inr (if_neg fun z => hq.2 (Or.inr (by rw [z.1, z.2.1, z.2.2])))
    case h17 =>
      intro i j k hq
      by_cases hz : i < m + 1 ∧ j = 0 ∧ k = 0
      · have him : i ≠ m := fun e => hq.1 (Or.inl (by rw [e, hz.2.1, hz.2.2]))
        left
        unfold mz_f17
        rw [if_pos hz, if_pos (show i < m ∧ j = 0 ∧ k = 0 from ⟨by omega, hz.2⟩), at_i him, show (mz_tw rs (nI (m + 1)) X J).2.1 33 i = rs.2.1 33 i from x33 i (by omega)]
      · exact Or.inr (if_neg hz)
    case h18 =>
      intro i j k hq
      by_cases hz : i < m + 1 ∧ j = 0 ∧ k = 0
      · have him : i ≠ m := fun e => hq.1 (Or.inr (Or.inl (by rw [e, hz.2.1, hz.2.2])))
        have es : mz_sl (mz_tw rs (nI (m + 1)) X J) i = mz_sl rs i := by
          show (X 34 i).toNatClampNeg = (rs.2.1 34 i).toNatClampNeg
          rw [x34 i (by omega)]
        left
        unfold mz_f18
        rw [if_pos hz, if_pos (show i < m ∧ j = 0 ∧ k = 0 from ⟨by omega, hz.2⟩), es]
        simp only [at_i him]
      · exact Or.inr (if_neg hz)
    case h19 =>
      intro i j k hq
      by_cases hi : i < m
      · have K := keepQ (lv := lv) (mk := mk) (mm := mm) (gi := gi) (go := go) (gj := gj) (rs' := mz_tw rs (nI (m + 1)) X J) (ad' := mz_tA ad (mz_tw rs (nI (m + 1)) X J) m S hb.2 bs ps) (ad := ad) w hi (x34 i hi) (j := j) (fun hl => sm i j hi hl) (fun f k' => at_i (by omega)) k
        exact Or.inl K.1
      · right
        refine if_neg fun z => ?_
        obtain rfl : i = m := by omega
        rw [esl] at z
        exact hq.1 (Or.inr (Or.inr ⟨j, _, z.2.1, Or.inl ⟨by rw [z.2.2], rfl⟩⟩))
    case h20 =>
      intro i j k hq
      by_cases hi : i < m
      · have K := keepQ (lv := lv) (mk := mk) (mm := mm) (gi := gi) (go := go) (gj := gj) (rs' := mz_tw rs (nI (m + 1)) X J) (ad' := mz_tA ad (mz_tw rs (nI (m + 1)) X J) m S hb.2 bs ps) (ad := ad) w hi (x34 i hi) (j := j) (fun hl => sm i j hi hl) (fun f k' => at_i (by omega)) k
        exact Or.inl K.2.1
      · right
        refine if_neg fun z => ?_
        obtain rfl : i = m := by omega
        rw [esl] at z
        exact hq.1 (Or.inr (Or.inr ⟨j, _, z.2.1, Or.inr (Or.inl ⟨z.2.2.2.1, z.2.2.2.2, Or.inl ⟨by rw [z.2.2.1], rfl⟩⟩)⟩))
    case h21 =>
      intro i j k hq
      by_cases hi : i < m
      · have K := keepQ (lv := lv) (mk := mk) (mm := mm) (gi := gi) (go := go) (gj := gj) (rs' := mz_tw rs (nI (m + 1)) X J) (ad' := mz_tA ad (mz_tw rs (nI (m + 1)) X J) m S hb.2 bs ps) (ad := ad) w hi (x34 i hi) (j := j) (fun hl => sm i j hi hl) (fun f k' => at_i (by omega)) k
        exact Or.inl K.2.2.1
      · right
        refine if_neg fun z => ?_
        obtain rfl : i = m := by omega
        rw [esl] at z
        exact hq.1 (Or.inr (Or.inr ⟨j, _, z.2.1, Or.inr (Or.inl ⟨z.2.2.2.1, z.2.2.2.2, Or.inr ⟨by rw [z.2.2.1], rfl⟩⟩)⟩))
    case h22 =>
      intro i j k hq
      by_cases hi : i < m
      · have K := keepQ (lv := lv) (mk := mk) (mm := mm) (gi := gi) (go := go) (gj := gj) (rs' := mz_tw rs (nI (m + 1)) X J) (ad' := mz_tA ad (mz_tw rs (nI (m + 1)) X J) m S hb.2 bs ps) (ad := ad) w hi (x34 i hi) (j := j) (fun hl => sm i j hi hl) (fun f k' => at_i (by omega)) k
        exact Or.inl K.2.2.2.1
      · right
        refine if_neg fun z => ?_
        obtain rfl : i = m := by omega
        rw [esl] at z
        exact hq.1 (Or.inr (Or.inr ⟨j, _, z.2.1, Or.inr (Or.inr ⟨z.2.2.2.1, z.2.2.2.2, Or.inl ⟨by rw [z.2.2.1], rfl⟩⟩)⟩))
    case h23 =>
      intro i j k hq
      by_cases hi : i < m
      · have K := keepQ (lv := lv) (mk := mk) (mm := mm) (gi := gi) (go := go) (gj := gj) (rs' := mz_tw rs (nI (m + 1)) X J) (ad' := mz_tA ad (mz_tw rs (nI (m + 1)) X J) m S hb.2 bs ps) (ad := ad) w hi (x34 i hi) (j := j) (fun hl => sm i j hi hl) (fun f k' => at_i (by omega)) k
        exact Or.inl K.2.2.2.2.1
      · right
        refine if_neg fun z => ?_
        obtain rfl : i = m := by omega
        rw [esl] at z
        exact hq.1 (Or.inr (Or.inr ⟨j, _, z.2.1, Or.inr (Or.inr ⟨z.2.2.1, z.2.2.2.1, Or.inr ⟨k, z.2.2.2.2.1, z.2.2.2.2.2, Or.inl ⟨rfl, rfl⟩⟩⟩)⟩))
    case h24 =>
      intro i j k hq
      by_cases hi : i < m
      · have K := keepQ (lv := lv) (mk := mk) (mm := mm) (gi := gi) (go := go) (gj := gj) (rs' := mz_tw rs (nI (m + 1)) X J) (ad' := mz_tA ad (mz_tw rs (nI (m + 1)) X J) m S hb.2 bs ps) (ad := ad) w hi (x34 i hi) (j := j) (fun hl => sm i j hi hl) (fun f k' => at_i (by omega)) k
        exact Or.inl K.2.2.2.2.2
      · right
        refine if_neg fun z => ?_
        obtain rfl : i = m := by omega
        rw [esl] at z
        exact hq.1 (Or.inr (Or.inr ⟨j, _, z.2.1, Or.inr (Or.inr ⟨z.2.2.1, z.2.2.2.1, Or.inr ⟨k, z.2.2.2.2.1, z.2.2.2.2.2, Or.inr ⟨rfl, rfl⟩⟩⟩)⟩))
end

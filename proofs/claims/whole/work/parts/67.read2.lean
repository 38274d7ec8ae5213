/-! the class reads a table: loops -/
def tb_m (mm : Nat → Nat → Nat × Nat) (c s k i : Nat) : Bool := (List.range i).any fun j => mm c j == (s, k)
def tb_pt (rs : mz_RS) (mm : Nat → Nat → Nat × Nat) (a b : Int32) (c s i k : Nat) : List (Nat × Nat) := if tb_m mm c s k i && tb_k rs a b c s k then [(c, s)] else []
theorem tb_m_succ (mm : Nat → Nat → Nat × Nat) (c s k i : Nat) : tb_m mm c s k (i + 1) = (tb_m mm c s k i || (mm c i == (s, k))) := by
  unfold tb_m
  rw [List.range_succ, List.any_append]
  simp
theorem tb_m_iff (mm : Nat → Nat → Nat × Nat) (c s k i : Nat) : tb_m mm c s k i = true ↔ ∃ j, j < i ∧ mm c j = (s, k) := by
  unfold tb_m
  rw [List.any_eq_true]
  constructor
  · rintro ⟨j, h1, h2⟩
    exact ⟨j, List.mem_range.mp h1, eq_of_beq h2⟩
  · rintro ⟨j, h1, h2⟩
    exact ⟨j, List.mem_range.mpr h1, by rw [h2]; exact beq_self_eq_true _⟩
theorem tb_J.cong {rs : mz_RS} {N : Nat} {L S L' S' : Nat → List (Nat × Nat)} {F : Nat → Int32} {E : Nat → Nat → Int32} (J : tb_J rs N L S F E) (hL : ∀ k, k < 31 → L k = L' k) (hS : ∀ k, k < 31 → S k = S' k) : tb_J rs N L' S' F E := by
  refine ⟨fun k hk => ?_, ?_⟩
  · rw [← hL k hk]
    exact J.1 k hk
  · rcases J.2 with ⟨f1, f2, f3, f4, h⟩ | ⟨k0, c0, s0, r, h1, h2, h3, h4⟩
    · exact Or.inl ⟨f1, f2, f3, f4, fun k hk => by rw [← hS k hk]; exact h k hk⟩
    · exact Or.inr ⟨k0, c0, s0, r, h1, by rw [← hS k0 h1]; exact h2, fun k hk => by rw [← hS k (by omega)]; exact h3 k hk, h4⟩
theorem tb_J.more {rs : mz_RS} {N N' : Nat} {L S : Nat → List (Nat × Nat)} {F : Nat → Int32} {E : Nat → Nat → Int32} (J : tb_J rs N L S F E) (h : N ≤ N') : tb_J rs N' L S F E := ⟨fun k hk => ⟨(J.1 k hk).1, by have := (J.1 k hk).2.1; omega, (J.1 k hk).2.2⟩, J.2⟩
theorem tb_pt_in {rs : mz_RS} {mm : Nat → Nat → Nat × Nat} {c s k i : Nat} (B : Nat → List (Nat × Nat)) (a b : Int32) (em : mm c i = (s, k)) (hno : tb_m mm c s k i = false) : tb_ad (fun k' => B k' ++ tb_pt rs mm a b c s i k') k (tb_k rs a b c s k) (c, s) = fun k' => B k' ++ tb_pt rs mm a b c s (i + 1) k' := by
  funext k'
  show (if _ then (B k' ++ tb_pt rs mm a b c s i k') ++ [(c, s)] else B k' ++ tb_pt rs mm a b c s i k') = _
  unfold tb_pt
  rw [tb_m_succ]
  by_cases hk : k' = k
  · subst hk
    rw [hno, em]
    cases hb : tb_k rs a b c s k' <;> simp
  · rw [if_neg fun z => hk z.1]
    have : (mm c i == (s, k')) = false := by
      rw [em]
      simp [Ne.symm hk]
    rw [this, Bool.or_false]
theorem tb_pt_out {rs : mz_RS} {mm : Nat → Nat → Nat × Nat} {c s i : Nat} (B : Nat → List (Nat × Nat)) (a b : Int32) (em : (mm c i).1 ≠ s) : (fun k' => B k' ++ tb_pt rs mm a b c s i k') = fun k' => B k' ++ tb_pt rs mm a b c s (i + 1) k' := by
  funext k'
  unfold tb_pt
  rw [tb_m_succ]
  have : (mm c i == (s, k')) = false := by
    cases h : mm c i == (s, k')
    · rfl
    · have := eq_of_beq h
      rw [this] at em
      exact absurd rfl em
  rw [this, Bool.or_false]
section
variable {VB : Nat} {n m : Nat} {rs : mz_RS} {ad : mz_T → Nat} {lv : Nat → Int32} {mk : Nat → Nat} {mm : Nat → Nat → Nat × Nat} {gi : Nat → Nat → Nat → Int32} {go : Nat → Nat → Option Nat} {gj : Nat → Nat → Int64} {h : mz_H}
variable {t : Nat} {G : Nat → Option Nat}
theorem cs_tmI (ht : t < 2) (wm : mz_wm n rs mk mm) (hn : n ≤ 40) {c s : Nat} (hc : c < n) (hs : s < 3) (B D : Nat → List (Nat × Nat)) (rc : mz_H → Option Nat → Int32 → Option Nat → Int32 → mz_Res Unit) : ∀ (d i f N : Nat) (h : mz_H) (F : Nat → Int32) (E : Nat → Nat → Int32), i + d = mk c → d < f → N + d < 2 ^ 30 → mz_Rp VB n m (mz_rt t rs F) ad lv mk mm (mz_gt t gi F E) (mz_ot t go G) gj h → tb_J rs N (fun k' => B k' ++ tb_pt rs mm 3 0 c s i k') (fun k' => D k' ++ tb_pt rs mm 6 6 c s i k') F E → ∃ h' F' E', fn_X7_takeMembers_b15 rc f h (some (ad (12, t, 0, 0))) (nI c) (some (ad (6, c, 0, 0))) (nI s) (nI i) = rc h' (some (ad (12, t, 0, 0))) (nI c) (some (ad (6, c, 0, 0))) (nI s + 1) ∧ mz_Rp VB n m (mz_rt t rs F') ad lv mk mm (mz_gt t gi F' E') (mz_ot t go G) gj h' ∧ h'.2 = h.2 ∧ tb_J rs (N + d) (fun k' => B k' ++ tb_pt rs mm 3 0 c s (mk c) k') (fun k' => D k' ++ tb_pt rs mm 6 6 c s (mk c) k') F' E' := by
  have h12 := (wm.1 c hc).1
  intro d
  induction d with
  | zero =>
    intro i f N h F E hi hf hN hR J
    obtain ⟨f, rfl⟩ : ∃ g', f = g' + 1 := ⟨f - 1, by omega⟩
    have e : i = mk c := by omega
    subst e
    exact ⟨h, F, E, by simp only [fn_X7_takeMembers_b15, cg_6_8 hR hc, if_pos (Int32.le_refl _), zo_s], hR, rfl, J⟩
  | succ d ih =>
    intro i f N h F E hi hf hN hR J
    obtain ⟨f, rfl⟩ : ∃ g', f = g' + 1 := ⟨f - 1, by omega⟩
    have hik : i < mk c := by omega
    have ng := nI_ge hik (show mk c < 2 ^ 31 by omega)
    obtain ⟨m1, m2⟩ := wm.2.1 c hc i hik
    have qs : nI (mm c i).1 = nI s ↔ (mm c i).1 = s := nI_eq (by omega) (by omega)
    by_cases es : (mm c i).1 = s
    · have em : mm c i = (s, (mm c i).2) := Prod.ext es rfl
      have hno : tb_m mm c s (mm c i).2 i = false := by
        cases hb : tb_m mm c s (mm c i).2 i
        · rfl
        · obtain ⟨j, h1, h2⟩ := (tb_m_iff ..).mp hb
          have := wm.2.2.1 c hc j i (by omega) hik (h2.trans em.symm)
          omega
      obtain ⟨h1, F1, E1, k1, R1, s1, J1⟩ := cs_takeM ht wm hn hR hc hik em J (by omega)
      rw [tb_pt_in B 3 0 em hno, tb_pt_in D 6 6 em hno] at J1
      obtain ⟨h2, F2, E2, k2, R2, s2, J2⟩ := ih (i + 1) f (N + 1) h1 F1 E1 (by omega) (by omega) (by omega) R1 J1
      rw [show nI (i + 1) = nI i + 1 from (nI_add i 1).symm] at k2
      refine ⟨h2, F2, E2, ?_, R2, by omega, J2.more (by omega)⟩
      simp only [fn_X7_takeMembers_b15, cg_6_8 hR hc, if_neg ng, cg_6_7 hR hc, ca_9 hR hc, ix_nI (show i < 12 by omega) (show 12 < 2 ^ 31 by omega), cl_nI (show i < 2 ^ 31 by omega), if_pos hik, cg_11_0 hR hc hik, if_pos (qs.mpr es), ci_12 hR ht, k1, fn_X7_takeMembers_b50, k2, zo_s, zc_t, zl_0, if_true]
    · rw [tb_pt_out B 3 0 es, tb_pt_out D 6 6 es] at J
      obtain ⟨h2, F2, E2, k2, R2, s2, J2⟩ := ih (i + 1) f N h F E (by omega) (by omega) (by omega) hR J
      rw [show nI (i + 1) = nI i + 1 from (nI_add i 1).symm] at k2
      refine ⟨h2, F2, E2, ?_, R2, by omega, J2.more (by omega)⟩
      simp only [fn_X7_takeMembers_b15, cg_6_8 hR hc, if_neg ng, cg_6_7 hR hc, ca_9 hR hc, ix_nI (show i < 12 by omega) (show 12 < 2 ^ 31 by omega), cl_nI (show i < 2 ^ 31 by omega), if_pos hik, cg_11_0 hR hc hik, if_neg (fun z => es (qs.mp z)), fn_X7_takeMembers_b50, k2, zo_s, if_true]
theorem tb_pt_all (wm : mz_wm n rs mk mm) {c s k : Nat} (hc : c < n) (hs : s < 3) (hk : k < 31) (a b : Int32) : tb_pt rs mm a b c s (mk c) k = if tb_o rs a b c s k then [(c, s)] else [] := by
  unfold tb_pt tb_o
  have : tb_m mm c s k (mk c) = decide (rs.2.1 10 (tb_p c s k) = 1) := by
    rcases wm.2.2.2.1 c hc s k hs hk with ⟨h1, h2⟩ | ⟨h1, h2⟩
    · rw [(tb_m_iff ..).mpr h2]
      exact (decide_eq_true (show rs.2.1 10 (tb_p c s k) = 1 from h1)).symm
    · have e : ¬ rs.2.1 10 (tb_p c s k) = 1 := by
        rw [show rs.2.1 10 (tb_p c s k) = 0 from h1]
        decide
      rw [decide_eq_false e]
      cases hb : tb_m mm c s k (mk c)
      · rfl
      · exact absurd ((tb_m_iff ..).mp hb) h2
  rw [this]
theorem tb_pt_0 (rs : mz_RS) (mm : Nat → Nat → Nat × Nat) (a b : Int32) (c s k : Nat) : tb_pt rs mm a b c s 0 k = [] := if_neg (by simp [tb_m])
theorem cs_tmS (ht : t < 2) (wm : mz_wm n rs mk mm) (hn : n ≤ 40) {c : Nat} (hc : c < n) (B D : Nat → List (Nat × Nat)) : ∀ (d s f N : Nat) (h : mz_H) (F : Nat → Int32) (E : Nat → Nat → Int32), s + d = 3 → d < f → N + 12 * d < 2 ^ 30 → mz_Rp VB n m (mz_rt t rs F) ad lv mk mm (mz_gt t gi F E) (mz_ot t go G) gj h → tb_J rs N (fun k' => B k' ++ tb_s rs 3 0 c k' s) (fun k' => D k' ++ tb_s rs 6 6 c k' s) F E → ∃ h' F' E', fn_X7_takeMembers_b7 f h (some (ad (12, t, 0, 0))) (nI c) (some (ad (6, c, 0, 0))) (nI s) = some ((), h', 0, 0) ∧ mz_Rp VB n m (mz_rt t rs F') ad lv mk mm (mz_gt t gi F' E') (mz_ot t go G) gj h' ∧ h'.2 = h.2 ∧ tb_J rs (N + 12 * d) (fun k' => B k' ++ tb_s rs 3 0 c k' 3) (fun k' => D k' ++ tb_s rs 6 6 c k' 3) F' E' := by
  have h12 := (wm.1 c hc).1
  intro d
  induction d with
  | zero =>
    intro s f N h F E hs hf hN hR J
    obtain ⟨f, rfl⟩ : ∃ g', f = g' + 1 := ⟨f - 1, by omega⟩
    have e : s = 3 := by omega
    subst e
    exact ⟨h, F, E, by simp only [fn_X7_takeMembers_b7, if_pos (show (3 : Int32) ≤ nI 3 from Int32.le_refl _), zo_s, zc_t, zl_0, zr_e, z_0, z_1, if_true], hR, rfl, J⟩
  | succ d ih =>
    intro s f N h F E hs hf hN hR J
    obtain ⟨f, rfl⟩ : ∃ g', f = g' + 1 := ⟨f - 1, by omega⟩
    have ng : ¬ 3 ≤ nI s := nI_ge (b := 3) (by omega) (by omega)
    obtain ⟨h1, F1, E1, k1, R1, s1, J1⟩ := cs_tmI ht wm hn hc (show s < 3 by omega) (fun k' => B k' ++ tb_s rs 3 0 c k' s) (fun k' => D k' ++ tb_s rs 6 6 c k' s) (fn_X7_takeMembers_b7 f) (mk c) 0 1001 N h F E (by omega) (by omega) (by omega) hR (J.cong (fun k hk => by rw [tb_pt_0, List.append_nil]) (fun k hk => by rw [tb_pt_0, List.append_nil]))
    have k1' : fn_X7_takeMembers_b15 (fn_X7_takeMembers_b7 f) 1001 h (some (ad (12, t, 0, 0))) (nI c) (some (ad (6, c, 0, 0))) (nI s) 0 = _ := k1
    obtain ⟨h2, F2, E2, k2, R2, s2, J2⟩ := ih (s + 1) f (N + 12) h1 F1 E1 (by omega) (by omega) (by omega) R1 ((J1.cong (fun k hk => by rw [tb_pt_all wm hc (by omega) hk, List.append_assoc]; rfl) (fun k hk => by rw [tb_pt_all wm hc (by omega) hk, List.append_assoc]; rfl)).more (by omega))
    rw [show nI (s + 1) = nI s + 1 from (nI_add s 1).symm] at k2
    refine ⟨h2, F2, E2, ?_, R2, by omega, J2.more (by omega)⟩
    simp only [fn_X7_takeMembers_b7, if_neg ng, k1', k2]
theorem tb_f_app (rs : mz_RS) (a b : Int32) (ws : List Nat) (c k : Nat) : tb_f rs a b (ws ++ [c]) k = tb_f rs a b ws k ++ tb_s rs a b c k 3 := by
  unfold tb_f
  rw [List.flatMap_append]
  simp
theorem cs_rdW (ht : t < 2) (wm : mz_wm n rs mk mm) (hn : n ≤ 40) {ws : List Nat} (hw : ∀ y, y ∈ ws → y < n) (hl : ws.length ≤ 40) (hA : ∀ j, j < ws.length → gi 5 j 0 = nI (ws.getD j 0)) : ∀ (rest pre : List Nat) (f : Nat) (h : mz_H) (F : Nat → Int32) (E : Nat → Nat → Int32), ws = pre ++ rest → rest.length < f → mz_Rp VB n m (mz_rt t rs F) ad lv mk mm (mz_gt t gi F E) (mz_ot t go G) gj h → tb_J rs (36 * pre.length) (tb_f rs 3 0 pre) (tb_f rs 6 6 pre) F E → ∃ h' F' E' g, fn_X7_read_b13 f h (some (ad (12, t, 0, 0))) (some (ad (2, 0, 0, 0))) (nI ws.length) (nI pre.length) = fn_X7_read_b13 (g + 1) h' (some (ad (12, t, 0, 0))) (some (ad (2, 0, 0, 0))) (nI ws.length) (nI ws.length) ∧ mz_Rp VB n m (mz_rt t rs F') ad lv mk mm (mz_gt t gi F' E') (mz_ot t go G) gj h' ∧ h'.2 = h.2 ∧ tb_J rs (36 * ws.length) (tb_f rs 3 0 ws) (tb_f rs 6 6 ws) F' E' := by
  intro rest
  induction rest with
  | nil =>
    intro pre f h F E e hf hR J
    obtain ⟨f, rfl⟩ : ∃ g', f = g' + 1 := ⟨f - 1, by omega⟩
    rw [List.append_nil] at e
    subst e
    exact ⟨h, F, E, f, rfl, hR, rfl, J⟩
  | cons c rest ih =>
    intro pre f h F E e hf hR J
    have hf' : rest.length + 1 < f := hf
    obtain ⟨f, rfl⟩ : ∃ g', f = g' + 1 := ⟨f - 1, by omega⟩
    have hlen : ws.length = pre.length + (rest.length + 1) := by rw [e, List.length_append]; rfl
    have hc : c < n := hw c (by rw [e]; simp)
    have hj : pre.length < ws.length := by omega
    have eA : gi 5 pre.length 0 = nI c := by
      rw [hA _ hj, e]
      simp [List.getD_eq_getElem?_getD]
    have eA' : mz_gt t gi F E 5 pre.length 0 = nI c := by
      rcases (show t = 0 ∨ t = 1 by omega) with rfl | rfl <;> exact eA
    obtain ⟨h1, F1, E1, k1, R1, s1, J1⟩ := cs_tmS ht wm hn hc (tb_f rs 3 0 pre) (tb_f rs 6 6 pre) 3 0 1001 (36 * pre.length) h F E (by omega) (by omega) (by omega) hR (J.cong (fun k hk => (List.append_nil _).symm) (fun k hk => (List.append_nil _).symm))
    have k1' : fn_X7_takeMembers_b7 1001 h (some (ad (12, t, 0, 0))) (nI c) (some (ad (6, c, 0, 0))) 0 = _ := k1
    obtain ⟨h2, F2, E2, g, k2, R2, s2, J2⟩ := ih (pre ++ [c]) f h1 F1 E1 (by rw [e]; simp) (by omega) R1 ((J1.cong (fun k hk => (tb_f_app ..).symm) (fun k hk => (tb_f_app ..).symm)).more (by rw [List.length_append]; show _ ≤ 36 * (pre.length + 1); omega))
    rw [show (pre ++ [c]).length = pre.length + 1 by simp, show nI (pre.length + 1) = nI pre.length + 1 from (nI_add _ 1).symm] at k2
    refine ⟨h2, F2, E2, g, ?_, R2, by omega, J2⟩
    have x4 : mz_aI h (some (ad (4, 0, 0, 0))) 0 (nI pre.length) = some (nI c) := by
      rw [ca_4 hR, ix_nI (show pre.length < 40 by omega) (by omega), if_pos rfl, cl_nI (by omega)]
      exact congrArg some eA'
    rw [← k2]
    simp only [fn_X7_read_b13, if_neg (nI_ge hj (show ws.length < 2 ^ 31 by omega)), cg_2_2 hR, x4, ci_2 hR, cs_typeOf hR hn hc, ci_12 hR ht, fn_X7_takeMembers, if_neg smn, k1', zo_s, zc_t, zl_0]
end

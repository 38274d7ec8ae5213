/-! the class reads a table: what is gathered, what is broken -/
def tb_N (L : Nat → List (Nat × Nat)) : Nat → List Nat
  | 0 => []
  | k + 1 => tb_N L k ++ (if (L k).isEmpty then [] else [k])
theorem tb_N_len (L : Nat → List (Nat × Nat)) : ∀ k, (tb_N L k).length ≤ k
  | 0 => Nat.le_refl 0
  | k + 1 => by
    have := tb_N_len L k
    rw [tb_N, List.length_append]
    split
    · show _ + 0 ≤ _
      omega
    · show _ + 1 ≤ _
      omega
theorem tb_N_mem (L : Nat → List (Nat × Nat)) : ∀ k x, x ∈ tb_N L k → x < k ∧ L x ≠ []
  | 0, _, h => absurd h List.not_mem_nil
  | k + 1, x, h => by
    rw [tb_N] at h
    rcases List.mem_append.mp h with q | q
    · have := tb_N_mem L k x q
      exact ⟨by omega, this.2⟩
    · cases he : (L k).isEmpty
      · rw [he] at q
        obtain rfl := List.mem_singleton.mp q
        exact ⟨by omega, fun z => by rw [z] at he; cases he⟩
      · rw [he] at q
        exact absurd q List.not_mem_nil
/-- the first of the names of which p holds -/
theorem tb_N_find (L : Nat → List (Nat × Nat)) (p : Nat → Bool) : ∀ k, ((tb_N L k).find? p = none ∧ ∀ x, x < k → L x ≠ [] → p x = false) ∨ ∃ k0, (tb_N L k).find? p = some k0 ∧ k0 < k ∧ L k0 ≠ [] ∧ p k0 = true ∧ ∀ x, x < k0 → L x ≠ [] → p x = false
  | 0 => Or.inl ⟨rfl, fun x hx => absurd hx (by omega)⟩
  | k + 1 => by
    rw [tb_N, List.find?_append]
    rcases tb_N_find L p k with ⟨h1, h2⟩ | ⟨k0, h1, h2, h3, h4, h5⟩
    · rw [h1]
      cases he : (L k).isEmpty
      · have hne : L k ≠ [] := fun z => by rw [z] at he; cases he
        cases hp : p k
        · left
          refine ⟨by simp [hp], fun x hx hL => ?_⟩
          rcases (show x = k ∨ x < k by omega) with rfl | q
          · exact hp
          · exact h2 x q hL
        · right
          exact ⟨k, by simp [hp], by omega, hne, hp, fun x hx hL => h2 x hx hL⟩
      · left
        refine ⟨by simp, fun x hx hL => ?_⟩
        rcases (show x = k ∨ x < k by omega) with rfl | q
        · exact absurd (List.isEmpty_iff.mp he) hL
        · exact h2 x q hL
    · right
      exact ⟨k0, by rw [h1]; rfl, by omega, h3, h4, h5⟩
/-- the second of the names that have a key; x have one already -/
def tb_sk (p : Nat → Bool) : Nat → List Nat → Option Nat
  | _, [] => none
  | x, k :: r => if (if p k then x + 1 else x) = 2 then some k else tb_sk p (if p k then x + 1 else x) r
section
variable {VB : Nat} {n m : Nat} {rs : mz_RS} {ad : mz_T → Nat} {lv : Nat → Int32} {mk : Nat → Nat} {mm : Nat → Nat → Nat × Nat} {gi : Nat → Nat → Nat → Int32} {go : Nat → Nat → Option Nat} {gj : Nat → Nat → Int64} {h : mz_H}
variable {t : Nat} {L : Nat → List (Nat × Nat)}
theorem cs_forget (ht : t < 2) {G : Nat → Option Nat} : ∀ (d i f : Nat) (h : mz_H) (F : Nat → Int32) (E : Nat → Nat → Int32), i + d = 31 → d < f → mz_Rp VB n m (mz_rt t rs F) ad lv mk mm (mz_gt t gi F E) (mz_ot t go G) gj h → (∀ k, k < i → E k 5 = 0 ∧ E k 6 = 0 ∧ E k 7 = -9) → ∃ h' F' E', fn_X7_forget_b2 f h (some (ad (12, t, 0, 0))) (nI i) = some ((), h', 0, 0) ∧ mz_Rp VB n m (mz_rt t rs F') ad lv mk mm (mz_gt t gi F' E') (mz_ot t go G) gj h' ∧ h'.2 = h.2 ∧ (∀ k, k < 31 → E' k 5 = 0 ∧ E' k 6 = 0 ∧ E' k 7 = -9) ∧ F' 1 = 0 ∧ F' 2 = -9 ∧ F' 3 = -9 ∧ F' 4 = -9 := by
  intro d
  induction d with
  | zero =>
    intro i f h F E hi hf hR hE
    obtain ⟨f, rfl⟩ : ∃ g', f = g' + 1 := ⟨f - 1, by omega⟩
    have e : i = 31 := by omega
    subst e
    obtain ⟨h2, k2, R2, s2⟩ := cw_tf ht hR (x := 1) (by omega) 0
    obtain ⟨h3, k3, R3, s3⟩ := cw_tf ht R2 (x := 2) (by omega) (-9)
    obtain ⟨h4, k4, R4, s4⟩ := cw_tf ht R3 (x := 3) (by omega) (-9)
    obtain ⟨h5, k5, R5, s5⟩ := cw_tf ht R4 (x := 4) (by omega) (-9)
    have k2' : mz_pF h (some (ad (12, t, 0, 0))) 6 3 (.int 0) = some h2 := k2
    have k3' : mz_pF h2 (some (ad (12, t, 0, 0))) 6 4 (.int (-9)) = some h3 := k3
    have k4' : mz_pF h3 (some (ad (12, t, 0, 0))) 6 5 (.int (-9)) = some h4 := k4
    have k5' : mz_pF h4 (some (ad (12, t, 0, 0))) 6 6 (.int (-9)) = some h5 := k5
    exact ⟨h5, _, E, by simp only [fn_X7_forget_b2, if_pos (show (31 : Int32) ≤ nI 31 from Int32.le_refl _), k2', k3', k4', k5', zo_s, zc_t, zl_0, zr_e, z_0, z_1, if_true], R5, by omega, hE, rfl, rfl, rfl, rfl⟩
  | succ d ih =>
    intro i f h F E hi hf hR hE
    obtain ⟨f, rfl⟩ : ∃ g', f = g' + 1 := ⟨f - 1, by omega⟩
    have hi31 : i < 31 := by omega
    have ng : ¬ (31 : Int32) ≤ nI i := nI_ge (b := 31) hi31 (by omega)
    obtain ⟨h1, k1, R1, s1⟩ := cw_te ht hR hi31 (x := 6) (by omega) (by omega) 0
    obtain ⟨h2, k2, R2, s2⟩ := cw_te ht R1 hi31 (x := 5) (by omega) (by omega) 0
    obtain ⟨h3, k3, R3, s3⟩ := cw_te ht R2 hi31 (x := 7) (by omega) (by omega) (-9)
    obtain ⟨h4, F4, E4, k4, R4, s4, x4⟩ := ih (i + 1) f h3 F _ (by omega) (by omega) R3 (fun k hk => by
      by_cases hki : k = i
      · subst hki
        simp [mz_e2]
      · have := hE k (by omega)
        simp [mz_e2, hki, this])
    rw [show nI (i + 1) = nI i + 1 from (nI_add i 1).symm] at k4
    refine ⟨h4, F4, E4, ?_, R4, by omega, x4⟩
    simp only [fn_X7_forget_b2, if_neg ng, cg_12_0 hR ht, tr_b ht hR hi31, ci_15 hR ht hi31, fn_X1_forget, k1, k2, k3, k4, zo_s, zc_t, zl_0, zr_e, z_0, z_1, if_true]
theorem cs_gather (ht : t < 2) {E : Nat → Nat → Int32} (hE : ∀ k, k < 31 → E k 6 = nI (L k).length ∧ (L k).length < 2 ^ 30) : ∀ (d k f : Nat) (h : mz_H) (F : Nat → Int32) (G : Nat → Option Nat), k + d = 31 → d < f → mz_Rp VB n m (mz_rt t rs F) ad lv mk mm (mz_gt t gi F E) (mz_ot t go G) gj h → F 0 = nI (tb_N L k).length → (∀ i, i < (tb_N L k).length → G i = (tb_N L k)[i]?) → ∃ h' F' G', fn_X7_gather_b7 f h (some (ad (12, t, 0, 0))) (nI k) = some ((), h', 0, 0) ∧ mz_Rp VB n m (mz_rt t rs F') ad lv mk mm (mz_gt t gi F' E) (mz_ot t go G') gj h' ∧ h'.2 = h.2 ∧ F' 0 = nI (tb_N L 31).length ∧ (∀ i, i < (tb_N L 31).length → G' i = (tb_N L 31)[i]?) ∧ ∀ x, x ≠ 0 → F' x = F x := by
  intro d
  induction d with
  | zero =>
    intro k f h F G hk hf hR h0 hG
    obtain ⟨f, rfl⟩ : ∃ g', f = g' + 1 := ⟨f - 1, by omega⟩
    have e : k = 31 := by omega
    subst e
    exact ⟨h, F, G, by simp only [fn_X7_gather_b7, if_pos (show (31 : Int32) ≤ nI 31 from Int32.le_refl _), zo_s, zc_t, zl_0, zr_e, z_0, z_1, if_true], hR, rfl, h0, hG, fun _ _ => rfl⟩
  | succ d ih =>
    intro k f h F G hk hf hR h0 hG
    obtain ⟨f, rfl⟩ : ∃ g', f = g' + 1 := ⟨f - 1, by omega⟩
    have hk31 : k < 31 := by omega
    have ng : ¬ (31 : Int32) ≤ nI k := nI_ge (b := 31) hk31 (by omega)
    obtain ⟨e6, l6⟩ := hE k hk31
    have g6 := tr_e ht hR hk31 (x := 6) (by omega) (by omega)
    have hlen := tb_N_len L k
    cases he : (L k).isEmpty with
    | true =>
      have z : E k 6 ≤ 0 := by
        rw [e6, List.isEmpty_iff.mp he]
        decide
      have eN : tb_N L (k + 1) = tb_N L k := by rw [tb_N, he]; exact List.append_nil _
      obtain ⟨h1, F1, G1, k1, x1⟩ := ih (k + 1) f h F G (by omega) (by omega) hR (by rw [eN]; exact h0) (by rw [eN]; exact hG)
      rw [show nI (k + 1) = nI k + 1 from (nI_add k 1).symm] at k1
      exact ⟨h1, F1, G1, by simp only [fn_X7_gather_b7, if_neg ng, cg_12_0 hR ht, tr_b ht hR hk31, g6, if_pos z, fn_X7_gather_b50, k1, zo_s], x1⟩
    | false =>
      have hpos : 0 < (L k).length := by
        cases hl : L k with
        | nil => rw [hl] at he; cases he
        | cons a b => exact Nat.succ_pos _
      have z : ¬ E k 6 ≤ 0 := by
        rw [e6]
        exact nI_nle hpos (by omega)
      have eN : tb_N L (k + 1) = tb_N L k ++ [k] := by rw [tb_N, he]; rfl
      have f2 : mz_fI h (some (ad (12, t, 0, 0))) 6 2 = some (F 0) := tr_f ht hR (x := 0) (by omega)
      obtain ⟨h1, k1, R1, s1⟩ := cw_tg ht hR (c := (tb_N L k).length) (by omega) hk31
      obtain ⟨h2, k2, R2, s2⟩ := cw_tf ht R1 (x := 0) (by omega) (F 0 + 1)
      have f2' : mz_fI h1 (some (ad (12, t, 0, 0))) 6 2 = some (F 0) := tr_f ht R1 (x := 0) (by omega)
      have k2' : mz_pF h1 (some (ad (12, t, 0, 0))) 6 2 (.int (F 0 + 1)) = some h2 := k2
      obtain ⟨h3, F3, G3, k3, R3, s3, a3, b3, c3⟩ := ih (k + 1) f h2 _ _ (by omega) (by omega) R2 (by
        rw [pk_us, eN, List.length_append, h0]
        exact nI_add _ 1) (fun i hi => by
        rw [eN] at hi ⊢
        rw [List.length_append] at hi
        have hi' : i < (tb_N L k).length + 1 := hi
        by_cases hil : i = (tb_N L k).length
        · subst hil
          rw [va_up_self]
          simp
        · rw [va_up_ne _ _ hil, hG i (by omega), List.getElem?_append_left (by omega)])
      rw [show nI (k + 1) = nI k + 1 from (nI_add k 1).symm] at k3
      rw [← h0] at k1
      refine ⟨h3, F3, G3, ?_, R3, by omega, a3, b3, fun x hx => (c3 x hx).trans (pk_un hx)⟩
      simp only [fn_X7_gather_b7, if_neg ng, cg_12_0 hR ht, cg_12_1 hR ht, tr_b ht hR hk31, g6, if_neg z, f2, k1, f2', k2', fn_X7_gather_b50, k3, zo_s]
theorem cs_clash (ht : t < 2) {E : Nat → Nat → Int32} {G : Nat → Option Nat} {Ns : List Nat} (hl : Ns.length ≤ 31) (hm : ∀ x ∈ Ns, x < 31) (hG : ∀ i, i < Ns.length → G i = Ns[i]?) : ∀ (rest pre : List Nat) (f : Nat) (h : mz_H) (F : Nat → Int32), Ns = pre ++ rest → rest.length < f → mz_Rp VB n m (mz_rt t rs F) ad lv mk mm (mz_gt t gi F E) (mz_ot t go G) gj h → F 0 = nI Ns.length → F 1 = 0 → ∃ h' F', fn_X7_lookForClash_b2 f h (some (ad (12, t, 0, 0))) (nI pre.length) = some ((), h', 0, 0) ∧ mz_Rp VB n m (mz_rt t rs F') ad lv mk mm (mz_gt t gi F' E) (mz_ot t go G) gj h' ∧ h'.2 = h.2 ∧ F' 0 = F 0 ∧ ((rest.find? (fun k => decide (¬ E k 7 = -9)) = none ∧ F' = F) ∨ ∃ k, rest.find? (fun k => decide (¬ E k 7 = -9)) = some k ∧ F' 1 = 2 ∧ F' 2 = nI k ∧ F' 3 = E k 1 ∧ F' 4 = E k 7) := by
  intro rest
  induction rest with
  | nil =>
    intro pre f h F e hf hR h0 h1
    obtain ⟨f, rfl⟩ : ∃ g', f = g' + 1 := ⟨f - 1, by omega⟩
    rw [List.append_nil] at e
    subst e
    have f2 : mz_fI h (some (ad (12, t, 0, 0))) 6 2 = some (F 0) := tr_f ht hR (x := 0) (by omega)
    exact ⟨h, F, by simp only [fn_X7_lookForClash_b2, f2, h0, if_pos (Int32.le_refl _), zo_s, zc_t, zl_0, zr_e, z_0, z_1, if_true], hR, rfl, rfl, Or.inl ⟨rfl, rfl⟩⟩
  | cons k rest ih =>
    intro pre f h F e hf hR h0 h1
    have hf' : rest.length + 1 < f := hf
    obtain ⟨f, rfl⟩ : ∃ g', f = g' + 1 := ⟨f - 1, by omega⟩
    have hlen : Ns.length = pre.length + (rest.length + 1) := by rw [e, List.length_append]; rfl
    have hk : k < 31 := hm k (by rw [e]; simp)
    have eG : G pre.length = some k := by
      rw [hG _ (by omega), e]
      simp
    have f2 : mz_fI h (some (ad (12, t, 0, 0))) 6 2 = some (F 0) := tr_f ht hR (x := 0) (by omega)
    have f3 : mz_fI h (some (ad (12, t, 0, 0))) 6 3 = some (F 1) := tr_f ht hR (x := 1) (by omega)
    have gg := tr_g ht hR (c := pre.length) (by omega)
    rw [eG] at gg
    have gg' : mz_aR h (some (ad (14, t, 0, 0))) 11 (nI pre.length) = some (some (ad (15, t, k, 0))) := gg
    have e7 := tr_e ht hR hk (x := 7) (by omega) (by omega)
    have e1 := tr_e ht hR hk (x := 1) (by omega) (by omega)
    have e0 := cg_15_0 hR ht hk
    have ng := nI_ge (show pre.length < Ns.length by omega) (show Ns.length < 2 ^ 31 by omega)
    by_cases h7 : E k 7 = -9
    · obtain ⟨h2, F2, k2, R2, s2, a2, b2⟩ := ih (pre ++ [k]) f h F (by rw [e]; simp) (by omega) hR h0 h1
      rw [show (pre ++ [k]).length = pre.length + 1 by simp, show nI (pre.length + 1) = nI pre.length + 1 from (nI_add _ 1).symm] at k2
      refine ⟨h2, F2, ?_, R2, s2, a2, ?_⟩
      · simp only [fn_X7_lookForClash_b2, f2, h0, if_neg ng, f3, h1, cg_12_1 hR ht, gg', e7, if_pos h7, fn_X7_lookForClash_b63, k2, zo_s, if_true]
      · rw [List.find?_cons_of_neg (by simp [h7])]
        exact b2
    · obtain ⟨h2, k2, R2, s2⟩ := cw_tf ht hR (x := 1) (by omega) 2
      obtain ⟨h3, k3, R3, s3⟩ := cw_tf ht R2 (x := 2) (by omega) (nI k)
      obtain ⟨h4, k4, R4, s4⟩ := cw_tf ht R3 (x := 3) (by omega) (E k 1)
      obtain ⟨h5, k5, R5, s5⟩ := cw_tf ht R4 (x := 4) (by omega) (E k 7)
      have T : fn_X7_tell h (some (ad (12, t, 0, 0))) 2 (nI k) (E k 1) (E k 7) = some ((), h5, 0, 0) := by
        have k2' : mz_pF h (some (ad (12, t, 0, 0))) 6 3 (.int 2) = some h2 := k2
        have k3' : mz_pF h2 (some (ad (12, t, 0, 0))) 6 4 (.int (nI k)) = some h3 := k3
        have k4' : mz_pF h3 (some (ad (12, t, 0, 0))) 6 5 (.int (E k 1)) = some h4 := k4
        have k5' : mz_pF h4 (some (ad (12, t, 0, 0))) 6 6 (.int (E k 7)) = some h5 := k5
        simp only [fn_X7_tell, k2', k3', k4', k5', zo_s, zc_t, zl_0, zr_e, z_0, z_1, if_true]
      obtain ⟨f, rfl⟩ : ∃ g', f = g' + 1 := ⟨f - 1, by omega⟩
      have stop : fn_X7_lookForClash_b2 (f + 1) h5 (some (ad (12, t, 0, 0))) (nI pre.length + 1) = some ((), h5, 0, 0) := by
        have g2 : mz_fI h5 (some (ad (12, t, 0, 0))) 6 2 = some (F 0) := tr_f ht R5 (x := 0) (by omega)
        have g3 : mz_fI h5 (some (ad (12, t, 0, 0))) 6 3 = some 2 := tr_f ht R5 (x := 1) (by omega)
        by_cases hz : F 0 ≤ nI pre.length + 1
        · simp only [fn_X7_lookForClash_b2, g2, if_pos hz, zo_s, zc_t, zl_0, zr_e, z_0, z_1, if_true]
        · simp only [fn_X7_lookForClash_b2, g2, if_neg hz, g3, if_neg (show ¬ (2 : Int32) = 0 from by decide), zo_s, zc_t, zl_0, zr_e, z_0, z_1, if_true]
      refine ⟨h5, _, ?_, R5, by omega, rfl, Or.inr ⟨k, List.find?_cons_of_pos (by simp [h7]), rfl, rfl, rfl, rfl⟩⟩
      rw [fn_X7_lookForClash_b2]
      simp only [f2, h0, if_neg ng, f3, h1, cg_12_1 hR ht, gg', e7, if_neg h7, e0, e1, ci_12 hR ht, T, fn_X7_lookForClash_b63, stop, zo_s, zc_t, zl_0, if_true]
theorem cs_second (ht : t < 2) {E : Nat → Nat → Int32} {G : Nat → Option Nat} {Ns : List Nat} (hl : Ns.length ≤ 31) (hm : ∀ x ∈ Ns, x < 31) (hG : ∀ i, i < Ns.length → G i = Ns[i]?) : ∀ (rest pre : List Nat) (x f : Nat) (h : mz_H) (F : Nat → Int32), Ns = pre ++ rest → rest.length < f → x < 2 → mz_Rp VB n m (mz_rt t rs F) ad lv mk mm (mz_gt t gi F E) (mz_ot t go G) gj h → F 0 = nI Ns.length → F 1 = 0 → ∃ h' F', fn_X7_lookForSecondKey_b4 f h (some (ad (12, t, 0, 0))) (nI x) (nI pre.length) = some ((), h', 0, 0) ∧ mz_Rp VB n m (mz_rt t rs F') ad lv mk mm (mz_gt t gi F' E) (mz_ot t go G) gj h' ∧ h'.2 = h.2 ∧ F' 0 = F 0 ∧ ((tb_sk (fun k => decide (¬ (E k 5 &&& 4) = 0)) x rest = none ∧ F' = F) ∨ ∃ k, tb_sk (fun k => decide (¬ (E k 5 &&& 4) = 0)) x rest = some k ∧ k ∈ rest ∧ F' 1 = 3 ∧ F' 2 = nI k ∧ F' 3 = E k 1 ∧ F' 4 = -9) := by
  intro rest
  induction rest with
  | nil =>
    intro pre x f h F e hf hx hR h0 h1
    obtain ⟨f, rfl⟩ : ∃ g', f = g' + 1 := ⟨f - 1, by omega⟩
    rw [List.append_nil] at e
    subst e
    have f2 : mz_fI h (some (ad (12, t, 0, 0))) 6 2 = some (F 0) := tr_f ht hR (x := 0) (by omega)
    exact ⟨h, F, by simp only [fn_X7_lookForSecondKey_b4, f2, h0, if_pos (Int32.le_refl _), zo_s, zc_t, zl_0, zr_e, z_0, z_1, if_true], hR, rfl, rfl, Or.inl ⟨rfl, rfl⟩⟩
  | cons k rest ih =>
    intro pre x f h F e hf hx hR h0 h1
    have hf' : rest.length + 1 < f := hf
    obtain ⟨f, rfl⟩ : ∃ g', f = g' + 1 := ⟨f - 1, by omega⟩
    have hlen : Ns.length = pre.length + (rest.length + 1) := by rw [e, List.length_append]; rfl
    have hk : k < 31 := hm k (by rw [e]; simp)
    have eG : G pre.length = some k := by
      rw [hG _ (by omega), e]
      simp
    have f2 : mz_fI h (some (ad (12, t, 0, 0))) 6 2 = some (F 0) := tr_f ht hR (x := 0) (by omega)
    have f3 : mz_fI h (some (ad (12, t, 0, 0))) 6 3 = some (F 1) := tr_f ht hR (x := 1) (by omega)
    have gg := tr_g ht hR (c := pre.length) (by omega)
    rw [eG] at gg
    have gg' : mz_aR h (some (ad (14, t, 0, 0))) 11 (nI pre.length) = some (some (ad (15, t, k, 0))) := gg
    have e5 := tr_e ht hR hk (x := 5) (by omega) (by omega)
    have e1 := tr_e ht hR hk (x := 1) (by omega) (by omega)
    have e0 := cg_15_0 hR ht hk
    have ng := nI_ge (show pre.length < Ns.length by omega) (show Ns.length < 2 ^ 31 by omega)
    -- the counter behind this name
    have step : ∀ x', x' = (if decide (¬ (E k 5 &&& 4) = 0) then x + 1 else x) → fn_X7_lookForSecondKey_b4 (f + 1) h (some (ad (12, t, 0, 0))) (nI x) (nI pre.length) = fn_X7_lookForSecondKey_b36 (fn_X7_lookForSecondKey_b4 f) h (some (ad (12, t, 0, 0))) (nI x') (nI pre.length) → ∃ h' F', fn_X7_lookForSecondKey_b4 (f + 1) h (some (ad (12, t, 0, 0))) (nI x) (nI pre.length) = some ((), h', 0, 0) ∧ mz_Rp VB n m (mz_rt t rs F') ad lv mk mm (mz_gt t gi F' E) (mz_ot t go G) gj h' ∧ h'.2 = h.2 ∧ F' 0 = F 0 ∧ ((tb_sk (fun k => decide (¬ (E k 5 &&& 4) = 0)) x (k :: rest) = none ∧ F' = F) ∨ ∃ k', tb_sk (fun k => decide (¬ (E k 5 &&& 4) = 0)) x (k :: rest) = some k' ∧ k' ∈ k :: rest ∧ F' 1 = 3 ∧ F' 2 = nI k' ∧ F' 3 = E k' 1 ∧ F' 4 = -9) := by
      intro x' ex ef
      have hx' : x' ≤ 2 := by rw [ex]; split <;> omega
      rw [ef, tb_sk, ← ex]
      by_cases h2 : x' = 2
      · have n2 : nI x' = 2 := by rw [h2]; rfl
        obtain ⟨h2', k2, R2, s2⟩ := cw_tf ht hR (x := 1) (by omega) 3
        obtain ⟨h3, k3, R3, s3⟩ := cw_tf ht R2 (x := 2) (by omega) (nI k)
        obtain ⟨h4, k4, R4, s4⟩ := cw_tf ht R3 (x := 3) (by omega) (E k 1)
        obtain ⟨h5, k5, R5, s5⟩ := cw_tf ht R4 (x := 4) (by omega) (-9)
        have T : fn_X7_tell h (some (ad (12, t, 0, 0))) 3 (nI k) (E k 1) (-9) = some ((), h5, 0, 0) := by
          have k2' : mz_pF h (some (ad (12, t, 0, 0))) 6 3 (.int 3) = some h2' := k2
          have k3' : mz_pF h2' (some (ad (12, t, 0, 0))) 6 4 (.int (nI k)) = some h3 := k3
          have k4' : mz_pF h3 (some (ad (12, t, 0, 0))) 6 5 (.int (E k 1)) = some h4 := k4
          have k5' : mz_pF h4 (some (ad (12, t, 0, 0))) 6 6 (.int (-9)) = some h5 := k5
          simp only [fn_X7_tell, k2', k3', k4', k5', zo_s, zc_t, zl_0, zr_e, z_0, z_1, if_true]
        obtain ⟨f, rfl⟩ : ∃ g', f = g' + 1 := ⟨f - 1, by omega⟩
        have stop : fn_X7_lookForSecondKey_b4 (f + 1) h5 (some (ad (12, t, 0, 0))) (nI x') (nI pre.length + 1) = some ((), h5, 0, 0) := by
          have g2 : mz_fI h5 (some (ad (12, t, 0, 0))) 6 2 = some (F 0) := tr_f ht R5 (x := 0) (by omega)
          have g3 : mz_fI h5 (some (ad (12, t, 0, 0))) 6 3 = some 3 := tr_f ht R5 (x := 1) (by omega)
          by_cases hz : F 0 ≤ nI pre.length + 1
          · simp only [fn_X7_lookForSecondKey_b4, g2, if_pos hz, zo_s, zc_t, zl_0, zr_e, z_0, z_1, if_true]
          · simp only [fn_X7_lookForSecondKey_b4, g2, if_neg hz, g3, if_neg (show ¬ (3 : Int32) = 0 from by decide), zo_s, zc_t, zl_0, zr_e, z_0, z_1, if_true]
        refine ⟨h5, _, ?_, R5, by omega, rfl, Or.inr ⟨k, if_pos h2, List.mem_cons_self .., rfl, rfl, rfl, rfl⟩⟩
        simp only [fn_X7_lookForSecondKey_b36, if_pos n2, cg_12_1 hR ht, gg', e0, e1, ci_12 hR ht, T, fn_X7_lookForSecondKey_b66, stop, zo_s, zc_t, zl_0]
      · have n2 : ¬ nI x' = 2 := fun z => h2 ((nI_eq (b := 2) (by omega) (by omega)).mp z)
        obtain ⟨h2', F2, k2, R2, s2, a2, b2⟩ := ih (pre ++ [k]) x' f h F (by rw [e]; simp) (by omega) (by omega) hR h0 h1
        rw [show (pre ++ [k]).length = pre.length + 1 by simp, show nI (pre.length + 1) = nI pre.length + 1 from (nI_add _ 1).symm] at k2
        refine ⟨h2', F2, ?_, R2, s2, a2, ?_⟩
        · simp only [fn_X7_lookForSecondKey_b36, if_neg n2, fn_X7_lookForSecondKey_b66, k2, zo_s]
        · rw [if_neg h2]
          rcases b2 with q | ⟨k', q1, q2, q3⟩
          · exact Or.inl q
          · exact Or.inr ⟨k', q1, List.mem_cons_of_mem _ q2, q3⟩
    by_cases h5 : (E k 5 &&& 4) = 0
    · refine step x (by simp [h5]) ?_
      simp only [fn_X7_lookForSecondKey_b4, f2, h0, if_neg ng, f3, h1, cg_12_1 hR ht, gg', e5, if_pos h5, zo_s, if_true]
    · refine step (x + 1) (by simp [h5]) ?_
      have ex : nI x + 1 = nI (x + 1) := nI_add x 1
      simp only [fn_X7_lookForSecondKey_b4, f2, h0, if_neg ng, f3, h1, cg_12_1 hR ht, gg', e5, if_neg h5, ex, zo_s, if_true]
/-- what a table comes to: rule, name, class, other, count -/
def tb_uu (rs : mz_RS) (k : Nat) : List (Nat × Nat) → Int32
  | [] => -9
  | q :: r => tb_u rs k q r
def tb_ow : List (Nat × Nat) → Int32
  | [] => 0
  | q :: _ => nI q.1
def tb_O (rs : mz_RS) (L S : Nat → List (Nat × Nat)) (Ns : List Nat) (r nm cl ot : Int32) (cnt : Nat) : Prop :=
  (∃ k0 c0 s0 z, k0 < 31 ∧ S k0 = (c0, s0) :: z ∧ (∀ k, k < k0 → S k = []) ∧ r = 1 ∧ nm = nI k0 ∧ cl = nI c0 ∧ ot = -9 ∧ cnt = 0) ∨
  ((∀ k, k < 31 → S k = []) ∧ ∃ k0, k0 < 31 ∧ ¬ tb_uu rs k0 (L k0) = -9 ∧ (∀ k, k < k0 → tb_uu rs k (L k) = -9) ∧ r = 2 ∧ nm = nI k0 ∧ cl = tb_ow (L k0) ∧ ot = tb_uu rs k0 (L k0) ∧ cnt = 0) ∨
  ((∀ k, k < 31 → S k = []) ∧ (∀ k, k < 31 → tb_uu rs k (L k) = -9) ∧ ∃ k0, tb_sk (fun k => decide (¬ (tb_or rs k (L k) &&& 4) = 0)) 0 Ns = some k0 ∧ r = 3 ∧ nm = nI k0 ∧ cl = tb_ow (L k0) ∧ ot = -9 ∧ cnt = 0) ∨
  ((∀ k, k < 31 → S k = []) ∧ (∀ k, k < 31 → tb_uu rs k (L k) = -9) ∧ tb_sk (fun k => decide (¬ (tb_or rs k (L k) &&& 4) = 0)) 0 Ns = none ∧ r = 0 ∧ nm = -9 ∧ cl = -9 ∧ ot = -9 ∧ cnt = Ns.length)
theorem tb_O.uniq {rs : mz_RS} {L S : Nat → List (Nat × Nat)} {Ns : List Nat} {r nm cl ot r' nm' cl' ot' : Int32} {cnt cnt' : Nat} (a : tb_O rs L S Ns r nm cl ot cnt) (b : tb_O rs L S Ns r' nm' cl' ot' cnt') : r = r' ∧ nm = nm' ∧ cl = cl' ∧ ot = ot' ∧ cnt = cnt' := by
  rcases a with ⟨k0, c0, s0, z, h1, h2, h3, rfl, rfl, rfl, rfl, rfl⟩ | ⟨hS, k0, h1, h2, h3, rfl, rfl, rfl, rfl, rfl⟩ | ⟨hS, hU, k0, h1, rfl, rfl, rfl, rfl, rfl⟩ | ⟨hS, hU, h1, rfl, rfl, rfl, rfl, rfl⟩ <;>
  rcases b with ⟨k1, c1, s1, z1, g1, g2, g3, rfl, rfl, rfl, rfl, rfl⟩ | ⟨gS, k1, g1, g2, g3, rfl, rfl, rfl, rfl, rfl⟩ | ⟨gS, gU, k1, g1, rfl, rfl, rfl, rfl, rfl⟩ | ⟨gS, gU, g1, rfl, rfl, rfl, rfl, rfl⟩
  · have e : k0 = k1 := by
      rcases Nat.lt_trichotomy k0 k1 with q | q | q
      · rw [g3 k0 q] at h2; cases h2
      · exact q
      · rw [h3 k1 q] at g2; cases g2
    subst e
    rw [h2] at g2
    cases g2
    exact ⟨rfl, rfl, rfl, rfl, rfl⟩
  · rw [gS k0 h1] at h2; cases h2
  · rw [gS k0 h1] at h2; cases h2
  · rw [gS k0 h1] at h2; cases h2
  · rw [hS k1 g1] at g2; cases g2
  · have e : k0 = k1 := by
      rcases Nat.lt_trichotomy k0 k1 with q | q | q
      · exact absurd (g3 k0 q) h2
      · exact q
      · exact absurd (h3 k1 q) g2
    subst e
    exact ⟨rfl, rfl, rfl, rfl, rfl⟩
  · exact absurd (gU k0 h1) h2
  · exact absurd (gU k0 h1) h2
  · rw [hS k1 g1] at g2; cases g2
  · exact absurd (hU k1 g1) g2
  · rw [h1] at g1
    cases g1
    exact ⟨rfl, rfl, rfl, rfl, rfl⟩
  · rw [h1] at g1; cases g1
  · rw [hS k1 g1] at g2; cases g2
  · exact absurd (hU k1 g1) g2
  · rw [h1] at g1; cases g1
  · exact ⟨rfl, rfl, rfl, rfl, rfl⟩
theorem tb_E.e7 {k : Nat} {l : List (Nat × Nat)} {x : Nat → Int32} (h : tb_E rs k l x) : x 7 = tb_uu rs k l := by
  cases l with
  | nil => exact h.2.2
  | cons q r => exact h.2.2.2.2.2.2
theorem tb_E.e1 {k : Nat} {l : List (Nat × Nat)} {x : Nat → Int32} (h : tb_E rs k l x) (hl : l ≠ []) : x 1 = tb_ow l := by
  cases l with
  | nil => exact absurd rfl hl
  | cons q r => exact h.2.2.1
theorem tb_sk_cong {p q : Nat → Bool} : ∀ (l : List Nat) (x : Nat), (∀ k ∈ l, p k = q k) → tb_sk p x l = tb_sk q x l := by
  intro l
  induction l with
  | nil => exact fun _ _ => rfl
  | cons k r ih =>
    intro x h
    rw [tb_sk, tb_sk, h k (List.mem_cons_self ..), ih _ fun z hz => h z (List.mem_cons_of_mem _ hz)]
theorem cs_rdEnd (ht : t < 2) {F : Nat → Int32} {E : Nat → Nat → Int32} {G : Nat → Option Nat} {S : Nat → List (Nat × Nat)} {N : Nat} (hR : mz_Rp VB n m (mz_rt t rs F) ad lv mk mm (mz_gt t gi F E) (mz_ot t go G) gj h) (J : tb_J rs N L S F E) (hN : N < 2 ^ 30) (g w : Nat) {Ns : List Nat} (hNs : Ns = tb_N L 31) : ∃ h' F' G', fn_X7_read_b13 (g + 1) h (some (ad (12, t, 0, 0))) (some (ad (2, 0, 0, 0))) (nI w) (nI w) = some ((), h', 0, 0) ∧ mz_Rp VB n m (mz_rt t rs F') ad lv mk mm (mz_gt t gi F' E) (mz_ot t go G') gj h' ∧ h'.2 = h.2 ∧ ∃ cnt, F' 0 = nI cnt ∧ tb_O rs L S Ns (F' 1) (F' 2) (F' 3) (F' 4) cnt ∧ (cnt ≠ 0 → cnt = Ns.length) ∧ ∀ i, i < Ns.length → G' i = Ns[i]? := by
  have hlen : Ns.length ≤ 31 := by rw [hNs]; exact tb_N_len L 31
  have hmm : ∀ x ∈ Ns, x < 31 ∧ L x ≠ [] := by rw [hNs]; exact tb_N_mem L 31
  have hm : ∀ x ∈ Ns, x < 31 := fun x hx => (hmm x hx).1
  have hfd := tb_N_find L (fun k => decide (¬ E k 7 = -9)) 31
  rw [← hNs] at hfd
  obtain ⟨h0, k0, R0, s0⟩ := cw_tf ht hR (x := 0) (by omega) 0
  have k0' : mz_pF h (some (ad (12, t, 0, 0))) 6 2 (.int 0) = some h0 := k0
  obtain ⟨h1, F1, G1, k1, R1, s1, a1, b1, c1⟩ := cs_gather (L := L) ht (E := E) (fun k hk => ⟨(J.1 k hk).1.1, by have := (J.1 k hk).2.1; omega⟩) 31 0 1001 h0 _ G (by omega) (by omega) R0 rfl (fun i hi => absurd hi (Nat.not_lt_zero i))
  rw [← hNs] at a1 b1
  clear hNs
  have k1' : fn_X7_gather_b7 1001 h0 (some (ad (12, t, 0, 0))) 0 = some ((), h1, 0, 0) := k1
  have e1 : F1 1 = F 1 := c1 1 (by omega)
  have e2 : F1 2 = F 2 := c1 2 (by omega)
  have e3 : F1 3 = F 3 := c1 3 (by omega)
  have e4 : F1 4 = F 4 := c1 4 (by omega)
  have f2 : mz_fI h1 (some (ad (12, t, 0, 0))) 6 2 = some (F1 0) := tr_f ht R1 (x := 0) (by omega)
  have f3 : mz_fI h1 (some (ad (12, t, 0, 0))) 6 3 = some (F1 1) := tr_f ht R1 (x := 1) (by omega)
  -- the end of a broken one
  have bad : ∀ h2 F2, mz_Rp VB n m (mz_rt t rs F2) ad lv mk mm (mz_gt t gi F2 E) (mz_ot t go G1) gj h2 → h2.2 = h.2 → ¬ F2 1 = 0 → fn_X7_read_b13 (g + 1) h (some (ad (12, t, 0, 0))) (some (ad (2, 0, 0, 0))) (nI w) (nI w) = (mz_op (mz_fI h2 (some (ad (12, t, 0, 0))) 6 3) fun v1 => if v1 = 0 then mz_ret () h2 else mz_op (mz_pF h2 (some (ad (12, t, 0, 0))) 6 2 (Value.int 0)) fun h => mz_ret () h) → tb_O rs L S Ns (F2 1) (F2 2) (F2 3) (F2 4) 0 → ∃ h' F' G', fn_X7_read_b13 (g + 1) h (some (ad (12, t, 0, 0))) (some (ad (2, 0, 0, 0))) (nI w) (nI w) = some ((), h', 0, 0) ∧ mz_Rp VB n m (mz_rt t rs F') ad lv mk mm (mz_gt t gi F' E) (mz_ot t go G') gj h' ∧ h'.2 = h.2 ∧ ∃ cnt, F' 0 = nI cnt ∧ tb_O rs L S Ns (F' 1) (F' 2) (F' 3) (F' 4) cnt ∧ (cnt ≠ 0 → cnt = Ns.length) ∧ ∀ i, i < Ns.length → G' i = Ns[i]? := by
    intro h2 F2 R2 s2 n2 e O
    obtain ⟨h3, k3, R3, s3⟩ := cw_tf ht R2 (x := 0) (by omega) 0
    have k3' : mz_pF h2 (some (ad (12, t, 0, 0))) 6 2 (.int 0) = some h3 := k3
    have g3 : mz_fI h2 (some (ad (12, t, 0, 0))) 6 3 = some (F2 1) := tr_f ht R2 (x := 1) (by omega)
    refine ⟨h3, _, G1, ?_, R3, by omega, 0, rfl, O, fun z => absurd rfl z, b1⟩
    rw [e]
    simp only [g3, if_neg n2, k3', zo_s, zc_t, zl_0, zr_e, z_0, z_1, if_true]
  by_cases z1 : F 1 = 0
  case neg =>
    have n1 : ¬ F1 1 = 0 := by rw [e1]; exact z1
    have hO : tb_O rs L S Ns (F1 1) (F1 2) (F1 3) (F1 4) 0 := by
      rw [e1, e2, e3, e4]
      rcases J.2 with ⟨q, -⟩ | ⟨k0, c0, s0, r, q1, q2, q3, q4, q5, q6, q7⟩
      · exact absurd q z1
      · exact Or.inl ⟨k0, c0, s0, r, q1, q2, q3, q4, q5, q6, q7, rfl⟩
    have C : fn_X7_lookForClash h1 (some (ad (12, t, 0, 0))) = some ((), h1, 0, 0) := by
      show fn_X7_lookForClash_b2 (1000 + 1) h1 (some (ad (12, t, 0, 0))) 0 = _
      generalize 1000 = ff
      by_cases hz : F1 0 ≤ 0
      · simp only [fn_X7_lookForClash_b2, f2, if_pos hz, zo_s, zc_t, zl_0, zr_e, z_0, z_1, if_true]
      · simp only [fn_X7_lookForClash_b2, f2, if_neg hz, f3, if_neg n1, zo_s, zc_t, zl_0, zr_e, z_0, z_1, if_true]
    have K : fn_X7_lookForSecondKey h1 (some (ad (12, t, 0, 0))) = some ((), h1, 0, 0) := by
      show fn_X7_lookForSecondKey_b4 (1000 + 1) h1 (some (ad (12, t, 0, 0))) 0 0 = _
      generalize 1000 = ff
      by_cases hz : F1 0 ≤ 0
      · simp only [fn_X7_lookForSecondKey_b4, f2, if_pos hz, zo_s, zc_t, zl_0, zr_e, z_0, z_1, if_true]
      · simp only [fn_X7_lookForSecondKey_b4, f2, if_neg hz, f3, if_neg n1, zo_s, zc_t, zl_0, zr_e, z_0, z_1, if_true]
    refine bad h1 F1 R1 (by omega) n1 ?_ hO
    simp only [fn_X7_read_b13, if_pos (Int32.le_refl _), ci_12 hR ht, fn_X7_gather, k0', k1', ci_12 R1 ht, C, K, zo_s, zc_t, zl_0]
  have nS : ∀ k, k < 31 → S k = [] := by
    rcases J.2 with ⟨-, -, -, -, q⟩ | ⟨k0, c0, s0, r, q1, q2, q3, q4, -⟩
    · exact q
    · rw [q4] at z1
      exact absurd z1 (by decide)
  have f1z : F 2 = -9 ∧ F 3 = -9 ∧ F 4 = -9 := by
    rcases J.2 with ⟨-, q2, q3, q4, -⟩ | ⟨k0, c0, s0, r, q1, q2, q3, q4, -⟩
    · exact ⟨q2, q3, q4⟩
    · rw [q4] at z1
      exact absurd z1 (by decide)
  have z1' : F1 1 = 0 := e1.trans z1
  obtain ⟨h2, F2, k2, R2, s2, a2, b2⟩ := cs_clash ht (E := E) (G := G1) hlen hm b1 Ns [] 1001 h1 F1 rfl (by omega) R1 a1 z1'
  have k2' : fn_X7_lookForClash h1 (some (ad (12, t, 0, 0))) = some ((), h2, 0, 0) := k2
  have e7 : ∀ k, k < 31 → E k 7 = tb_uu rs k (L k) := fun k hk => (J.1 k hk).1.e7
  have uE : ∀ k, L k = [] → tb_uu rs k (L k) = -9 := fun k hk => by rw [hk]; rfl
  rcases hfd with ⟨q1, q2⟩ | ⟨kk, q1, q2, q3, q4, q5⟩
  case inr =>
    rcases b2 with ⟨z, -⟩ | ⟨k', z, y1, y2, y3, y4⟩
    · rw [q1] at z; cases z
    · rw [q1] at z
      cases z
      have n2 : ¬ F2 1 = 0 := by rw [y1]; decide
      have g2 : mz_fI h2 (some (ad (12, t, 0, 0))) 6 2 = some (F2 0) := tr_f ht R2 (x := 0) (by omega)
      have g3 : mz_fI h2 (some (ad (12, t, 0, 0))) 6 3 = some (F2 1) := tr_f ht R2 (x := 1) (by omega)
      have K : fn_X7_lookForSecondKey h2 (some (ad (12, t, 0, 0))) = some ((), h2, 0, 0) := by
        show fn_X7_lookForSecondKey_b4 (1000 + 1) h2 (some (ad (12, t, 0, 0))) 0 0 = _
        generalize 1000 = ff
        by_cases hz : F2 0 ≤ 0
        · simp only [fn_X7_lookForSecondKey_b4, g2, if_pos hz, zo_s, zc_t, zl_0, zr_e, z_0, z_1, if_true]
        · simp only [fn_X7_lookForSecondKey_b4, g2, if_neg hz, g3, if_neg n2, zo_s, zc_t, zl_0, zr_e, z_0, z_1, if_true]
      refine bad h2 F2 R2 (by omega) n2 ?_ (Or.inr (Or.inl ⟨nS, kk, q2, ?_, fun k hk => ?_, y1, y2, ?_, ?_, rfl⟩))
      · simp only [fn_X7_read_b13, if_pos (Int32.le_refl _), ci_12 hR ht, fn_X7_gather, k0', k1', ci_12 R1 ht, k2', ci_12 R2 ht, K, zo_s, zc_t, zl_0]
      · rw [← e7 kk q2]
        exact of_decide_eq_true q4
      · by_cases hL : L k = []
        · exact uE k hL
        · have := q5 k hk hL
          rw [← e7 k (by omega)]
          exact Decidable.not_not.mp (of_decide_eq_false this)
      · rw [y3]
        exact (J.1 kk q2).1.e1 q3
      · rw [y4]
        exact e7 kk q2
  have nU : ∀ k, k < 31 → tb_uu rs k (L k) = -9 := fun k hk => by
    by_cases hL : L k = []
    · exact uE k hL
    · have := q2 k hk hL
      rw [← e7 k hk]
      exact Decidable.not_not.mp (of_decide_eq_false this)
  obtain rfl : F2 = F1 := by
    rcases b2 with ⟨-, z⟩ | ⟨k', z, -⟩
    · exact z
    · rw [q1] at z; cases z
  obtain ⟨h3, F3, k3, R3, s3, a3, b3⟩ := cs_second ht (E := E) (G := G1) hlen hm b1 Ns [] 0 1001 h2 F2 rfl (by omega) (by omega) R2 a1 z1'
  have k3' : fn_X7_lookForSecondKey h2 (some (ad (12, t, 0, 0))) = some ((), h3, 0, 0) := k3
  have ek : tb_sk (fun k => decide (¬ (E k 5 &&& 4) = 0)) 0 Ns = tb_sk (fun k => decide (¬ (tb_or rs k (L k) &&& 4) = 0)) 0 Ns := tb_sk_cong _ _ fun k hk => by
    rw [(J.1 k (hm k hk)).1.2.1]
  rw [ek] at b3
  rcases b3 with ⟨y, rfl⟩ | ⟨k', y, ym, y1, y2, y3, y4⟩
  · have g3 : mz_fI h3 (some (ad (12, t, 0, 0))) 6 3 = some (F3 1) := tr_f ht R3 (x := 1) (by omega)
    refine ⟨h3, F3, G1, ?_, R3, by omega, Ns.length, a1, Or.inr (Or.inr (Or.inr ⟨nS, nU, y, z1', ?_, ?_, ?_, rfl⟩)), fun _ => rfl, b1⟩
    · simp only [fn_X7_read_b13, if_pos (Int32.le_refl _), ci_12 hR ht, fn_X7_gather, k0', k1', ci_12 R1 ht, k2', ci_12 R2 ht, k3', g3, if_pos z1', zo_s, zc_t, zl_0, zr_e, z_0, z_1, if_true]
    · rw [e2]; exact f1z.1
    · rw [e3]; exact f1z.2.1
    · rw [e4]; exact f1z.2.2
  · have n3 : ¬ F3 1 = 0 := by rw [y1]; decide
    refine bad h3 F3 R3 (by omega) n3 ?_ (Or.inr (Or.inr (Or.inl ⟨nS, nU, k', y, y1, y2, ?_, y4, rfl⟩)))
    · simp only [fn_X7_read_b13, if_pos (Int32.le_refl _), ci_12 hR ht, fn_X7_gather, k0', k1', ci_12 R1 ht, k2', ci_12 R2 ht, k3', zo_s, zc_t, zl_0]
    · rw [y3]
      exact (J.1 k' (hm k' ym)).1.e1 (hmm k' ym).2
end

/-! the reference makes a table: the loops over the way, the names, the keys -/
section
variable {n m : Nat} {rs : mz_RS} {lv : Nat → Int32} {mk : Nat → Nat} {mm : Nat → Nat → Nat × Nat}
variable {a : Int32} {A B C : Nat → Int32} {r nm cl ot : Int32}
theorem rs_enW (q sz : Nat) (wc : mz_wc n rs lv) (wm : mz_wm n rs mk mm) {k K : Nat} (hk : k < 31) (hK : K ≤ 30) {ws : List Nat} (hw : ∀ y, y ∈ ws → y < n) (hl : ws.length ≤ 40) (W : wy_W ws a A) : ∀ (rest pre : List Nat) (f : Nat) (M : Nat → Int32), ws = pre ++ rest → rest.length < f → en_ok rs k (7 * K) (tb_f rs 3 0 pre k) M → (∃ M', fn_X12_enter_b13 f (mz_RH q sz (mz_mt (mz_wy rs a A B C) r nm cl ot (nI K) M)) (some q) (nI k) (nI (7 * K)) (nI (tb_f rs 3 0 pre k).length) (nI pre.length) = some (1, mz_RH q sz (mz_mt (mz_wy rs a A B C) r nm cl ot (nI (K + if (tb_f rs 3 0 ws k).isEmpty then 0 else 1)) M'), 0, 0) ∧ tb_uu rs k (tb_f rs 3 0 ws k) = -9 ∧ (tb_f rs 3 0 ws k ≠ [] → ∀ x, x ≤ 6 → M' (7 * K + x) = tb_val rs k (tb_f rs 3 0 ws k) x) ∧ ∀ i, i < 7 * K → M' i = M i) ∨ (∃ M', fn_X12_enter_b13 f (mz_RH q sz (mz_mt (mz_wy rs a A B C) r nm cl ot (nI K) M)) (some q) (nI k) (nI (7 * K)) (nI (tb_f rs 3 0 pre k).length) (nI pre.length) = some (0, mz_RH q sz (mz_mt (mz_wy rs a A B C) 2 (nI k) (tb_ow (tb_f rs 3 0 ws k)) (tb_uu rs k (tb_f rs 3 0 ws k)) 0 M'), 0, 0) ∧ ¬ tb_uu rs k (tb_f rs 3 0 ws k) = -9) := by
  have hn := wc.1
  intro rest
  induction rest with
  | nil =>
    intro pre f M e hf ok
    obtain ⟨f, rfl⟩ : ∃ g', f = g' + 1 := ⟨f - 1, by omega⟩
    rw [List.append_nil] at e
    subst e
    have e17 : (mz_mt (mz_wy rs a A B C) r nm cl ot (nI K) M).1 17 = nI ws.length := W.1
    obtain ⟨fl, fm⟩ := tb_f_len rs 3 0 k ws
    cases hL : tb_f rs 3 0 ws k with
    | nil =>
      left
      refine ⟨M, ?_, rfl, fun h => absurd rfl h, fun _ _ => rfl⟩
      have z0 : nI ([] : List (Nat × Nat)).length ≤ 0 := by decide
      simp only [fn_X12_enter_b13, rg_17, e17, if_pos (Int32.le_refl _), if_pos z0, List.isEmpty_nil, Nat.add_zero, zo_s, zc_t, zl_0, zr_e, z_0, z_1, if_true]
    | cons p rr =>
      left
      rw [hL] at ok fl
      have hlen : (p :: rr).length ≤ 120 := by omega
      have z0 : ¬ nI (p :: rr).length ≤ 0 := nI_nle (Nat.succ_pos _) (by omega)
      have x6 : nI (7 * K) + 6 = nI (7 * K + 6) := nI_add _ 6
      have e24 : (mz_mt (mz_wy rs a A B C) r nm cl ot (nI K) (upd M (7 * K + 6) (nI (p :: rr).length))).1 24 = nI K := rfl
      have eK : nI K + 1 = nI (K + 1) := nI_add K 1
      refine ⟨upd M (7 * K + 6) (nI (p :: rr).length), ?_, ok.1, fun h x hx => ?_, fun i hi => pk_un (by omega)⟩
      · simp only [fn_X12_enter_b13, rg_17, e17, if_pos (Int32.le_refl _), if_neg z0, rr_25, rw_25, x6, ix_nI (show 7 * K + 6 < 217 by omega) (show 217 < 2 ^ 31 by omega), cl_nI (show 7 * K + 6 < 2 ^ 31 by omega), mt_25, rg_24, e24, rp_24, mt_24, eK, List.isEmpty_cons, zo_s, zc_t, zl_0, zr_e, z_0, z_1, if_true]
        rfl
      · by_cases h6 : x = 6
        · subst h6
          rw [pk_us]
          rfl
        · rw [pk_un (by omega)]
          exact ok.2 h x (by omega)
  | cons c rest ih =>
    intro pre f M e hf ok
    have hf' : rest.length + 1 < f := hf
    obtain ⟨f, rfl⟩ : ∃ g', f = g' + 1 := ⟨f - 1, by omega⟩
    have hlen : ws.length = pre.length + (rest.length + 1) := by rw [e, List.length_append]; rfl
    have hc : c < n := hw c (by rw [e]; simp)
    have hj : pre.length < ws.length := by omega
    have eA : A pre.length = nI c := by
      rw [W.2 _ hj, e]
      simp [List.getD_eq_getElem?_getD]
    have ng := nI_ge hj (show ws.length < 2 ^ 31 by omega)
    have e17 : (mz_mt (mz_wy rs a A B C) r nm cl ot (nI K) M).1 17 = nI ws.length := W.1
    obtain ⟨fl, fm⟩ := tb_f_len rs 3 0 k pre
    have hb : ∀ z ∈ tb_f rs 3 0 pre k, z.1 < 40 := fun z hz => by
      have := hw z.1 (by rw [e]; exact List.mem_append_left _ (fm z hz))
      omega
    have ok' : en_ok rs k (7 * K) (tb_f rs 3 0 pre k ++ tb_s rs 3 0 c k 0) M := by
      rw [show tb_s rs 3 0 c k 0 = [] from rfl, List.append_nil]
      exact ok
    have S := rs_enS (a := a) (B := B) (C := C) (r := r) (nm := nm) (cl := cl) (ot := ot) (mn := nI K) q sz wc wm hc hk (show pre.length < 40 by omega) (show 7 * K + 6 < 217 by omega) eA (show (tb_f rs 3 0 pre k).length ≤ 200 by omega) hb (fn_X12_enter_b13 f) 3 0 1001 M (by omega) (by omega) ok'
    rw [show tb_s rs 3 0 c k 0 = [] from rfl, List.append_nil] at S
    rw [show nI 0 = (0 : Int32) from rfl] at S
    rcases S with ⟨M1, k1, ok1, x1⟩ | ⟨M1, P1, z, k1, u1, ez⟩
    · have I := ih (pre ++ [c]) f M1 (by rw [e]; simp) (by omega) (by rw [tb_f_app]; exact ok1)
      rw [tb_f_app, show (pre ++ [c]).length = pre.length + 1 by simp, show nI (pre.length + 1) = nI pre.length + 1 from (nI_add _ 1).symm] at I
      have e1 : fn_X12_enter_b13 (f + 1) (mz_RH q sz (mz_mt (mz_wy rs a A B C) r nm cl ot (nI K) M)) (some q) (nI k) (nI (7 * K)) (nI (tb_f rs 3 0 pre k).length) (nI pre.length) = fn_X12_enter_b13 f (mz_RH q sz (mz_mt (mz_wy rs a A B C) r nm cl ot (nI K) M1)) (some q) (nI k) (nI (7 * K)) (nI (tb_f rs 3 0 pre k ++ tb_s rs 3 0 c k 3).length) (nI pre.length + 1) := by
        rw [fn_X12_enter_b13]
        simp only [rg_17, e17, if_neg ng, k1, zo_s]
      rw [e1]
      rcases I with ⟨M', i1, i2, i3, i4⟩ | I
      · exact Or.inl ⟨M', i1, i2, i3, fun i hi => (i4 i hi).trans (x1 i hi)⟩
      · exact Or.inr I
    · right
      have eL : tb_f rs 3 0 ws k = P1 ++ (z ++ tb_f rs 3 0 rest k) := by rw [e, tb_f_mid, ← List.append_assoc, ez, List.append_assoc]
      obtain ⟨y1, y2⟩ := tb_uu_ext rs k (z ++ tb_f rs 3 0 rest k) u1
      refine ⟨M1, ?_, by rw [eL, y1]; exact u1⟩
      rw [eL, y1, y2, fn_X12_enter_b13]
      simp only [rg_17, e17, if_neg ng, k1, zo_s]
theorem rs_enter (q sz : Nat) (wc : mz_wc n rs lv) (wm : mz_wm n rs mk mm) {k K : Nat} (hk : k < 31) (hK : K ≤ 30) {ws : List Nat} (hw : ∀ y, y ∈ ws → y < n) (hl : ws.length ≤ 40) (W : wy_W ws a A) (M : Nat → Int32) : (∃ M', fn_X12_enter (mz_RH q sz (mz_mt (mz_wy rs a A B C) r nm cl ot (nI K) M)) (some q) (nI k) = some (1, mz_RH q sz (mz_mt (mz_wy rs a A B C) r nm cl ot (nI (K + if (tb_f rs 3 0 ws k).isEmpty then 0 else 1)) M'), 0, 0) ∧ tb_uu rs k (tb_f rs 3 0 ws k) = -9 ∧ (tb_f rs 3 0 ws k ≠ [] → ∀ x, x ≤ 6 → M' (7 * K + x) = tb_val rs k (tb_f rs 3 0 ws k) x) ∧ ∀ i, i < 7 * K → M' i = M i) ∨ (∃ M', fn_X12_enter (mz_RH q sz (mz_mt (mz_wy rs a A B C) r nm cl ot (nI K) M)) (some q) (nI k) = some (0, mz_RH q sz (mz_mt (mz_wy rs a A B C) 2 (nI k) (tb_ow (tb_f rs 3 0 ws k)) (tb_uu rs k (tb_f rs 3 0 ws k)) 0 M'), 0, 0) ∧ ¬ tb_uu rs k (tb_f rs 3 0 ws k) = -9) := by
  have S := rs_enW (B := B) (C := C) (r := r) (nm := nm) (cl := cl) (ot := ot) q sz wc wm hk hK hw hl W ws [] 1001 M rfl (by omega) ⟨rfl, fun h => absurd rfl h⟩
  have e24 : (mz_mt (mz_wy rs a A B C) r nm cl ot (nI K) M).1 24 = nI K := rfl
  have e1 : fn_X12_enter (mz_RH q sz (mz_mt (mz_wy rs a A B C) r nm cl ot (nI K) M)) (some q) (nI k) = fn_X12_enter_b13 1001 (mz_RH q sz (mz_mt (mz_wy rs a A B C) r nm cl ot (nI K) M)) (some q) (nI k) (nI (7 * K)) (nI (tb_f rs 3 0 [] k).length) (nI ([] : List Nat).length) := by
    simp only [fn_X12_enter, rg_24, e24, l7', zo_s]
    rfl
  rw [e1]
  exact S
/-- the made entries stand for the names of l -/
def en_N (rs : mz_RS) (L : Nat → List (Nat × Nat)) (l : List Nat) (M : Nat → Int32) : Prop := ∀ i kk, l[i]? = some kk → ∀ x, x ≤ 6 → M (7 * i + x) = tb_val rs kk (L kk) x
theorem rs_second (q sz : Nat) {L : Nat → List (Nat × Nat)} {Ns : List Nat} (hl : Ns.length ≤ 31) (hne : ∀ k ∈ Ns, k < 31 ∧ L k ≠ []) {M : Nat → Int32} (hM : en_N rs L Ns M) : ∀ (rest pre : List Nat) (x f : Nat), Ns = pre ++ rest → rest.length < f → x < 2 → (tb_sk (fun k => decide (¬ (tb_or rs k (L k) &&& 4) = 0)) x rest = none ∧ fn_X12_makeTable_b72 f (mz_RH q sz (mz_mt (mz_wy rs a A B C) r nm cl ot (nI Ns.length) M)) (some q) 1 (nI x) (nI pre.length) = some ((), mz_RH q sz (mz_mt (mz_wy rs a A B C) r nm cl ot (nI Ns.length) M), 0, 0)) ∨ ∃ k0, tb_sk (fun k => decide (¬ (tb_or rs k (L k) &&& 4) = 0)) x rest = some k0 ∧ fn_X12_makeTable_b72 f (mz_RH q sz (mz_mt (mz_wy rs a A B C) r nm cl ot (nI Ns.length) M)) (some q) 1 (nI x) (nI pre.length) = some ((), mz_RH q sz (mz_mt (mz_wy rs a A B C) 3 (nI k0) (tb_ow (L k0)) (-9) 0 M), 0, 0) := by
  have e24 : ∀ r nm cl ot mn, (mz_mt (mz_wy rs a A B C) r nm cl ot mn M).1 24 = mn := fun _ _ _ _ _ => rfl
  have e25 : ∀ r nm cl ot mn, (mz_mt (mz_wy rs a A B C) r nm cl ot mn M).2.1 25 = M := fun _ _ _ _ _ => rfl
  intro rest
  induction rest with
  | nil =>
    intro pre x f e hf hx
    obtain ⟨f, rfl⟩ : ∃ g', f = g' + 1 := ⟨f - 1, by omega⟩
    rw [List.append_nil] at e
    subst e
    exact Or.inl ⟨rfl, by simp only [fn_X12_makeTable_b72, rg_24, e24, if_pos (Int32.le_refl _), zo_s, zc_t, zl_0, zr_e, z_0, z_1, if_true]⟩
  | cons k rest ih =>
    intro pre x f e hf hx
    have hf' : rest.length + 1 < f := hf
    obtain ⟨f, rfl⟩ : ∃ g', f = g' + 1 := ⟨f - 1, by omega⟩
    have hlen : Ns.length = pre.length + (rest.length + 1) := by rw [e, List.length_append]; rfl
    have hg : Ns[pre.length]? = some k := by rw [e]; simp
    obtain ⟨hk, hkne⟩ := hne k (by rw [e]; simp)
    have m5 : M (7 * pre.length + 5) = tb_or rs k (L k) := hM _ _ hg 5 (by omega)
    have m0 : M (7 * pre.length) = nI k := hM _ _ hg 0 (by omega)
    have m1 : M (7 * pre.length + 1) = tb_ow (L k) := by
      rw [hM _ _ hg 1 (by omega)]
      unfold tb_val tb_ow
      rw [if_neg (by omega), if_neg (by omega), if_neg (by omega)]
      cases hL : L k with
      | nil => exact absurd hL hkne
      | cons p rr => rfl
    have ng := nI_ge (show pre.length < Ns.length by omega) (show Ns.length < 2 ^ 31 by omega)
    have x5 : (7 : Int32) * nI pre.length + 5 = nI (7 * pre.length + 5) := l7 _ 5
    have x1 : nI (7 * pre.length) + 1 = nI (7 * pre.length + 1) := nI_add _ 1
    have x0 : (7 : Int32) * nI pre.length = nI (7 * pre.length) := l7' _
    have step : ∀ x' b, x' = (if decide (¬ (tb_or rs k (L k) &&& 4) = 0) then x + 1 else x) → nI x + b = nI x' → fn_X12_makeTable_b72 (f + 1) (mz_RH q sz (mz_mt (mz_wy rs a A B C) r nm cl ot (nI Ns.length) M)) (some q) 1 (nI x) (nI pre.length) = fn_X12_makeTable_b108 (fn_X12_makeTable_b72 f) (mz_RH q sz (mz_mt (mz_wy rs a A B C) r nm cl ot (nI Ns.length) M)) (some q) 1 (nI pre.length) (nI x) b → (tb_sk (fun k => decide (¬ (tb_or rs k (L k) &&& 4) = 0)) x (k :: rest) = none ∧ fn_X12_makeTable_b72 (f + 1) (mz_RH q sz (mz_mt (mz_wy rs a A B C) r nm cl ot (nI Ns.length) M)) (some q) 1 (nI x) (nI pre.length) = some ((), mz_RH q sz (mz_mt (mz_wy rs a A B C) r nm cl ot (nI Ns.length) M), 0, 0)) ∨ ∃ k0, tb_sk (fun k => decide (¬ (tb_or rs k (L k) &&& 4) = 0)) x (k :: rest) = some k0 ∧ fn_X12_makeTable_b72 (f + 1) (mz_RH q sz (mz_mt (mz_wy rs a A B C) r nm cl ot (nI Ns.length) M)) (some q) 1 (nI x) (nI pre.length) = some ((), mz_RH q sz (mz_mt (mz_wy rs a A B C) 3 (nI k0) (tb_ow (L k0)) (-9) 0 M), 0, 0) := by
      intro x' b ex eb ef
      have hx' : x' ≤ 2 := by rw [ex]; split <;> omega
      rw [ef, tb_sk, ← ex]
      by_cases h2 : x' = 2
      · have n2 : nI x' = 2 := by rw [h2]; rfl
        rw [if_pos h2]
        right
        obtain ⟨f, rfl⟩ : ∃ g', f = g' + 1 := ⟨f - 1, by omega⟩
        have stop : fn_X12_makeTable_b72 (f + 1) (mz_RH q sz (mz_mt (mz_wy rs a A B C) 3 (nI k) (tb_ow (L k)) (-9) 0 M)) (some q) 0 (nI x') (nI pre.length + 1) = some ((), mz_RH q sz (mz_mt (mz_wy rs a A B C) 3 (nI k) (tb_ow (L k)) (-9) 0 M), 0, 0) := by
          by_cases hz : (0 : Int32) ≤ nI pre.length + 1
          · simp only [fn_X12_makeTable_b72, rg_24, e24, if_pos hz, zo_s, zc_t, zl_0, zr_e, z_0, z_1, if_true]
          · simp only [fn_X12_makeTable_b72, rg_24, e24, if_neg hz, zo_s, zc_t, zl_0, zr_e, z_0, z_1, if_true]
        refine ⟨k, rfl, ?_⟩
        simp only [fn_X12_makeTable_b108, eb, if_pos n2, rr_25, ra_25, x1, x0, ix_nI (show 7 * pre.length < 217 by omega) (show 217 < 2 ^ 31 by omega), cl_nI (show 7 * pre.length < 2 ^ 31 by omega), ix_nI (show 7 * pre.length + 1 < 217 by omega) (show 217 < 2 ^ 31 by omega), cl_nI (show 7 * pre.length + 1 < 2 ^ 31 by omega), e25, m0, m1, mz_RH_is, rs_breaks, fn_X12_makeTable_b146, stop, zo_s, zc_t, zl_0, if_true]
      · have n2 : ¬ nI x' = 2 := fun z => h2 ((nI_eq (b := 2) (by omega) (by omega)).mp z)
        rw [if_neg h2]
        have I := ih (pre ++ [k]) x' f (by rw [e]; simp) (by omega) (by omega)
        rw [show (pre ++ [k]).length = pre.length + 1 by simp, show nI (pre.length + 1) = nI pre.length + 1 from (nI_add _ 1).symm] at I
        have e1 : fn_X12_makeTable_b108 (fn_X12_makeTable_b72 f) (mz_RH q sz (mz_mt (mz_wy rs a A B C) r nm cl ot (nI Ns.length) M)) (some q) 1 (nI pre.length) (nI x) b = fn_X12_makeTable_b72 f (mz_RH q sz (mz_mt (mz_wy rs a A B C) r nm cl ot (nI Ns.length) M)) (some q) 1 (nI x') (nI pre.length + 1) := by
          simp only [fn_X12_makeTable_b108, eb, if_neg n2, fn_X12_makeTable_b146, zo_s]
        rw [e1]
        exact I
    by_cases h5 : (tb_or rs k (L k) &&& 4) = 0
    · refine step x 0 (by simp [h5]) (Int32.add_zero _) ?_
      simp only [fn_X12_makeTable_b72, rg_24, e24, if_neg ng, if_neg one0, rr_25, ra_25, x5, ix_nI (show 7 * pre.length + 5 < 217 by omega) (show 217 < 2 ^ 31 by omega), cl_nI (show 7 * pre.length + 5 < 2 ^ 31 by omega), e25, m5, if_pos h5, zo_s, if_true]
    · refine step (x + 1) 1 (by simp [h5]) (nI_add x 1) ?_
      simp only [fn_X12_makeTable_b72, rg_24, e24, if_neg ng, if_neg one0, rr_25, ra_25, x5, ix_nI (show 7 * pre.length + 5 < 217 by omega) (show 217 < 2 ^ 31 by omega), cl_nI (show 7 * pre.length + 5 < 2 ^ 31 by omega), e25, m5, if_neg h5, zo_s, if_true]
end

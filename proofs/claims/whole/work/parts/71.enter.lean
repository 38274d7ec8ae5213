/-! the reference makes a table: the entries -/
def tb_val (rs : mz_RS) (k : Nat) (L : List (Nat × Nat)) (x : Nat) : Int32 := if x = 0 then nI k else if x = 5 then tb_or rs k L else if x = 6 then nI L.length else match L with
  | [] => 0
  | q :: _ => if x = 1 then nI q.1 else if x = 2 then nI q.2 else if x = 3 then tb_l rs k q else tb_d rs k q
def en_ok (rs : mz_RS) (k e : Nat) (P : List (Nat × Nat)) (M : Nat → Int32) : Prop := tb_uu rs k P = -9 ∧ (P ≠ [] → ∀ x, x ≤ 5 → M (e + x) = tb_val rs k P x)
theorem tb_u_ext (rs : mz_RS) (k : Nat) (q : Nat × Nat) (z : List (Nat × Nat)) : ∀ r, ¬ tb_u rs k q r = -9 → tb_u rs k q (r ++ z) = tb_u rs k q r := by
  intro r
  induction r with
  | nil => exact fun h => absurd rfl h
  | cons p r ih =>
    intro h
    rw [List.cons_append, tb_u, tb_u]
    rw [tb_u] at h
    split
    · rename_i e
      rw [if_pos e] at h
      exact ih h
    · rfl
theorem tb_uu_ext (rs : mz_RS) (k : Nat) {P : List (Nat × Nat)} (z : List (Nat × Nat)) (h : ¬ tb_uu rs k P = -9) : tb_uu rs k (P ++ z) = tb_uu rs k P ∧ tb_ow (P ++ z) = tb_ow P := by
  cases P with
  | nil => exact absurd rfl h
  | cons q r => exact ⟨tb_u_ext rs k q z r h, rfl⟩
theorem tb_s_len (rs : mz_RS) (a b : Int32) (c k : Nat) : ∀ s, (tb_s rs a b c k s).length ≤ s ∧ ∀ q ∈ tb_s rs a b c k s, q.1 = c
  | 0 => ⟨Nat.le_refl 0, fun q h => absurd h List.not_mem_nil⟩
  | s + 1 => by
    obtain ⟨h1, h2⟩ := tb_s_len rs a b c k s
    rw [tb_s]
    split
    · refine ⟨by rw [List.length_append]; show _ + 1 ≤ _; omega, fun q hq => ?_⟩
      rcases List.mem_append.mp hq with z | z
      · exact h2 q z
      · obtain rfl := List.mem_singleton.mp z
        rfl
    · rw [List.append_nil]
      exact ⟨by omega, h2⟩
theorem tb_f_len (rs : mz_RS) (a b : Int32) (k : Nat) : ∀ ws : List Nat, (tb_f rs a b ws k).length ≤ 3 * ws.length ∧ ∀ q ∈ tb_f rs a b ws k, q.1 ∈ ws := by
  intro ws
  induction ws with
  | nil => exact ⟨Nat.le_refl 0, fun q h => absurd h List.not_mem_nil⟩
  | cons c ws ih =>
    have e : tb_f rs a b (c :: ws) k = tb_s rs a b c k 3 ++ tb_f rs a b ws k := List.flatMap_cons ..
    obtain ⟨h1, h2⟩ := tb_s_len rs a b c k 3
    rw [e]
    refine ⟨by rw [List.length_append]; show _ ≤ 3 * (ws.length + 1); omega, fun q hq => ?_⟩
    rcases List.mem_append.mp hq with z | z
    · rw [h2 q z]
      exact List.mem_cons_self ..
    · exact List.mem_cons_of_mem _ (ih.2 q z)
section
variable {n m : Nat} {rs : mz_RS} {lv : Nat → Int32} {mk : Nat → Nat} {mm : Nat → Nat → Nat × Nat}
variable {a : Int32} {A B C M : Nat → Int32} {r nm cl ot mn : Int32}
theorem rs_laneOf (q sz : Nat) (wc : mz_wc n rs lv) (wm : mz_wm n rs mk mm) {c s k : Nat} (hc : c < n) (hs : s < 3) (hk : k < 31) (h1 : ¬ rs.2.1 10 (tb_p c s k) = 0) : fn_X12_laneOf (mz_RH q sz (mz_mt (mz_wy rs a A B C) r nm cl ot mn M)) (some q) (nI c) (nI (tb_p c s k)) = some (tb_l rs k (c, s), mz_RH q sz (mz_mt (mz_wy rs a A B C) r nm cl ot mn M), 0, 0) := by
  have hn := wc.1
  have h1' : rs.2.1 10 ((3 * c + s) * 31 + k) = 1 := by
    rcases wm.2.2.2.1 c hc s k hs hk with ⟨z, -⟩ | ⟨z, -⟩
    · exact z
    · exact absurd z h1
  obtain ⟨⟨l, hl, el, hb⟩, -⟩ := wm.2.2.2.2 c hc s k hs hk h1'
  obtain ⟨v, hv, e7, -⟩ := wc.2.2.2.2.2.2.1 c hc
  have hp : tb_p c s k < 3720 := by unfold tb_p; omega
  have e11 : (mz_mt (mz_wy rs a A B C) r nm cl ot mn M).2.1 11 (tb_p c s k) = nI l := el
  have q8 : nI l ≤ 8 ↔ l ≤ 8 := nI_leI (b := 8) (by omega) (by omega)
  have q8' : 8 < nI l ↔ 8 < l := nI_ltI (a := 8) (by omega) (by omega)
  have tl : tb_l rs k (c, s) = if 8 < nI l then rs.2.1 8 (2 * c + (nI l - 9).toNatClampNeg) else nI l := by
    show mz_lane rs c (tb_p c s k) = _
    unfold mz_lane
    rw [show rs.2.1 11 (tb_p c s k) = nI l from el]
  by_cases h8 : l ≤ 8
  · rw [tl, if_neg (fun z => by have := q8'.mp z; omega)]
    simp only [fn_X12_laneOf, rr_11, ra_11, ix_nI (show tb_p c s k < 3720 by omega) (show 3720 < 2 ^ 31 by omega), cl_nI (show tb_p c s k < 2 ^ 31 by omega), e11, if_pos (q8.mpr h8), zo_s, zc_t, zl_0, zr_e, z_0, z_1, if_true]
  · have hb' := hb (by omega)
    rw [e7] at hb'
    have hv2 : l - 9 < v := by
      rcases Nat.lt_or_ge (l - 9) v with z | z
      · exact z
      · exact absurd hb' (nI_nlt z (by omega))
    have e9 : nI l - 9 = nI (l - 9) := by
      rcases (show l = 9 ∨ l = 10 by omega) with rfl | rfl <;> decide
    have ei : (2 : Int32) * nI c + nI l - 9 = nI (2 * c + (l - 9)) := by
      rw [l2, show 2 * c + l = 2 * c + (l - 9) + 9 by omega, ← nI_add (2 * c + (l - 9)) 9]
      exact Int32.add_sub_cancel _ _
    rw [tl, if_pos (q8'.mpr (by omega)), e9, cl_nI (by omega)]
    have e8 : (mz_mt (mz_wy rs a A B C) r nm cl ot mn M).2.1 8 (2 * c + (l - 9)) = rs.2.1 8 (2 * c + (l - 9)) := rfl
    simp only [fn_X12_laneOf, rr_11, ra_11, rr_8, ra_8, ix_nI (show tb_p c s k < 3720 by omega) (show 3720 < 2 ^ 31 by omega), cl_nI (show tb_p c s k < 2 ^ 31 by omega), e11, if_neg (fun z => h8 (q8.mp z)), ei, ix_nI (show 2 * c + (l - 9) < 80 by omega) (show 80 < 2 ^ 31 by omega), cl_nI (show 2 * c + (l - 9) < 2 ^ 31 by omega), e8, zo_s, zc_t, zl_0, zr_e, z_0, z_1, if_true]
theorem rs_enS (q sz : Nat) (wc : mz_wc n rs lv) (wm : mz_wm n rs mk mm) {c k j e : Nat} (hc : c < n) (hk : k < 31) (hj : j < 40) (he : e + 6 < 217) (hA : A j = nI c) {P0 : List (Nat × Nat)} (hP : P0.length ≤ 200) (hb : ∀ z ∈ P0, z.1 < 40) (rc : mz_H → Option Nat → Int32 → Int32 → Int32 → Int32 → mz_Res Int32) : ∀ (d s f : Nat) (M : Nat → Int32), s + d = 3 → d < f → en_ok rs k e (P0 ++ tb_s rs 3 0 c k s) M → (∃ M', fn_X12_enter_b25 rc f (mz_RH q sz (mz_mt (mz_wy rs a A B C) r nm cl ot mn M)) (some q) (nI k) (nI e) (nI (P0 ++ tb_s rs 3 0 c k s).length) (nI j) (nI s) = rc (mz_RH q sz (mz_mt (mz_wy rs a A B C) r nm cl ot mn M')) (some q) (nI k) (nI e) (nI (P0 ++ tb_s rs 3 0 c k 3).length) (nI j + 1) ∧ en_ok rs k e (P0 ++ tb_s rs 3 0 c k 3) M' ∧ ∀ i, i < e → M' i = M i) ∨ (∃ M' P1 z, fn_X12_enter_b25 rc f (mz_RH q sz (mz_mt (mz_wy rs a A B C) r nm cl ot mn M)) (some q) (nI k) (nI e) (nI (P0 ++ tb_s rs 3 0 c k s).length) (nI j) (nI s) = some (0, mz_RH q sz (mz_mt (mz_wy rs a A B C) 2 (nI k) (tb_ow P1) (tb_uu rs k P1) 0 M'), 0, 0) ∧ ¬ tb_uu rs k P1 = -9 ∧ P0 ++ tb_s rs 3 0 c k 3 = P1 ++ z) := by
  have hn := wc.1
  intro d
  induction d with
  | zero =>
    intro s f M hs hf ok
    obtain ⟨f, rfl⟩ : ∃ g', f = g' + 1 := ⟨f - 1, by omega⟩
    have e : s = 3 := by omega
    subst e
    exact Or.inl ⟨M, by simp only [fn_X12_enter_b25, if_pos (show (3 : Int32) ≤ nI 3 from Int32.le_refl _), zo_s], ok, fun _ _ => rfl⟩
  | succ d ih =>
    intro s f M hs hf ok
    obtain ⟨f, rfl⟩ : ∃ g', f = g' + 1 := ⟨f - 1, by omega⟩
    have ng : ¬ (3 : Int32) ≤ nI s := nI_ge (b := 3) (by omega) (by omega)
    have hp : tb_p c s k < 3720 := by unfold tb_p; omega
    have e16 : ∀ M : Nat → Int32, (mz_mt (mz_wy rs a A B C) r nm cl ot mn M).2.1 16 j = nI c := fun _ => hA
    have e10 : ∀ M : Nat → Int32, (mz_mt (mz_wy rs a A B C) r nm cl ot mn M).2.1 10 (tb_p c s k) = rs.2.1 10 (tb_p c s k) := fun _ => rfl
    have e13 : ∀ M : Nat → Int32, (mz_mt (mz_wy rs a A B C) r nm cl ot mn M).2.1 13 (tb_p c s k) = rs.2.1 13 (tb_p c s k) := fun _ => rfl
    have e12 : ∀ M : Nat → Int32, (mz_mt (mz_wy rs a A B C) r nm cl ot mn M).2.1 12 (tb_p c s k) = tb_d rs k (c, s) := fun _ => rfl
    have e25 : ∀ M : Nat → Int32, (mz_mt (mz_wy rs a A B C) r nm cl ot mn M).2.1 25 = M := fun _ => rfl
    have ep : nI ((3 * c + s) * 31 + k) = nI (tb_p c s k) := rfl
    obtain ⟨sl, sm⟩ := tb_s_len rs 3 0 c k s
    have hPb : ∀ z ∈ P0 ++ tb_s rs 3 0 c k s, z.1 < 40 := fun z hz => by
      rcases List.mem_append.mp hz with y | y
      · exact hb z y
      · rw [sm z y]; omega
    have hPl : (P0 ++ tb_s rs 3 0 c k s).length ≤ 203 := by rw [List.length_append]; omega
    -- nothing of this sort
    have skip : tb_o rs 3 0 c s k = false → tb_s rs 3 0 c k (s + 1) = tb_s rs 3 0 c k s := fun o => by rw [tb_s, o]; exact List.append_nil _
    -- one of this sort
    have add : tb_o rs 3 0 c s k = true → P0 ++ tb_s rs 3 0 c k (s + 1) = (P0 ++ tb_s rs 3 0 c k s) ++ [(c, s)] := fun o => by rw [tb_s, o, List.append_assoc]; rfl
    have go : tb_s rs 3 0 c k (s + 1) = tb_s rs 3 0 c k s → fn_X12_enter_b25 rc (f + 1) (mz_RH q sz (mz_mt (mz_wy rs a A B C) r nm cl ot mn M)) (some q) (nI k) (nI e) (nI (P0 ++ tb_s rs 3 0 c k s).length) (nI j) (nI s) = fn_X12_enter_b229 rc (fn_X12_enter_b25 rc f) (mz_RH q sz (mz_mt (mz_wy rs a A B C) r nm cl ot mn M)) (some q) (nI k) (nI e) (nI (P0 ++ tb_s rs 3 0 c k s).length) (nI j) (nI s) → (∃ M', fn_X12_enter_b25 rc (f + 1) (mz_RH q sz (mz_mt (mz_wy rs a A B C) r nm cl ot mn M)) (some q) (nI k) (nI e) (nI (P0 ++ tb_s rs 3 0 c k s).length) (nI j) (nI s) = rc (mz_RH q sz (mz_mt (mz_wy rs a A B C) r nm cl ot mn M')) (some q) (nI k) (nI e) (nI (P0 ++ tb_s rs 3 0 c k 3).length) (nI j + 1) ∧ en_ok rs k e (P0 ++ tb_s rs 3 0 c k 3) M' ∧ ∀ i, i < e → M' i = M i) ∨ (∃ M' P1 z, fn_X12_enter_b25 rc (f + 1) (mz_RH q sz (mz_mt (mz_wy rs a A B C) r nm cl ot mn M)) (some q) (nI k) (nI e) (nI (P0 ++ tb_s rs 3 0 c k s).length) (nI j) (nI s) = some (0, mz_RH q sz (mz_mt (mz_wy rs a A B C) 2 (nI k) (tb_ow P1) (tb_uu rs k P1) 0 M'), 0, 0) ∧ ¬ tb_uu rs k P1 = -9 ∧ P0 ++ tb_s rs 3 0 c k 3 = P1 ++ z) := by
      intro es e1
      have I := ih (s + 1) f M (by omega) (by omega) (by rw [es]; exact ok)
      rw [es, show nI (s + 1) = nI s + 1 from (nI_add s 1).symm] at I
      rw [e1, fn_X12_enter_b229, zo_s]
      exact I
    rcases rs_mark wm hc (show s < 3 by omega) hk 3 0 with ⟨z, o⟩ | ⟨z, ⟨z2, o⟩ | ⟨z2, o⟩⟩
    · refine go (skip o) ?_
      simp only [fn_X12_enter_b25, if_neg ng, rr_16, ra_16, rr_10, ra_10, ix_nI (show j < 40 by omega) (show 40 < 2 ^ 31 by omega), cl_nI (show j < 2 ^ 31 by omega), e16, l3, l31, ep, ix_nI (show tb_p c s k < 3720 by omega) (show 3720 < 2 ^ 31 by omega), cl_nI (show tb_p c s k < 2 ^ 31 by omega), e10, if_pos z, zo_s, if_true]
    case inr.inr =>
      refine go (skip o) ?_
      simp only [fn_X12_enter_b25, if_neg ng, rr_16, ra_16, rr_10, ra_10, rr_13, ra_13, ix_nI (show j < 40 by omega) (show 40 < 2 ^ 31 by omega), cl_nI (show j < 2 ^ 31 by omega), e16, l3, l31, ep, ix_nI (show tb_p c s k < 3720 by omega) (show 3720 < 2 ^ 31 by omega), cl_nI (show tb_p c s k < 2 ^ 31 by omega), e10, if_neg z, e13, if_neg z2, zo_s, if_true]
    have LO := fun M => rs_laneOf (a := a) (A := A) (B := B) (C := C) (r := r) (nm := nm) (cl := cl) (ot := ot) (mn := mn) (M := M) q sz wc wm hc (show s < 3 by omega) hk z
    have x1 : nI e + 1 = nI (e + 1) := nI_add e 1
    have x2 : nI e + 2 = nI (e + 2) := nI_add e 2
    have x3 : nI e + 3 = nI (e + 3) := nI_add e 3
    have x4 : nI e + 4 = nI (e + 4) := nI_add e 4
    have x5 : nI e + 5 = nI (e + 5) := nI_add e 5
    -- the end of a taken one
    have fin : ∀ M1, fn_X12_enter_b25 rc (f + 1) (mz_RH q sz (mz_mt (mz_wy rs a A B C) r nm cl ot mn M)) (some q) (nI k) (nI e) (nI (P0 ++ tb_s rs 3 0 c k s).length) (nI j) (nI s) = fn_X12_enter_b208 rc (fn_X12_enter_b25 rc f) (mz_RH q sz (mz_mt (mz_wy rs a A B C) r nm cl ot mn M1)) (some q) (nI k) (nI e) (nI (P0 ++ tb_s rs 3 0 c k s).length) (nI j) (nI s) (nI (tb_p c s k)) → (∀ i, i < e → M1 i = M i) → en_ok rs k e ((P0 ++ tb_s rs 3 0 c k s) ++ [(c, s)]) (upd M1 (e + 5) (M1 (e + 5) ||| tb_w rs k (c, s))) → (∃ M', fn_X12_enter_b25 rc (f + 1) (mz_RH q sz (mz_mt (mz_wy rs a A B C) r nm cl ot mn M)) (some q) (nI k) (nI e) (nI (P0 ++ tb_s rs 3 0 c k s).length) (nI j) (nI s) = rc (mz_RH q sz (mz_mt (mz_wy rs a A B C) r nm cl ot mn M')) (some q) (nI k) (nI e) (nI (P0 ++ tb_s rs 3 0 c k 3).length) (nI j + 1) ∧ en_ok rs k e (P0 ++ tb_s rs 3 0 c k 3) M' ∧ ∀ i, i < e → M' i = M i) ∨ (∃ M' P1 z, fn_X12_enter_b25 rc (f + 1) (mz_RH q sz (mz_mt (mz_wy rs a A B C) r nm cl ot mn M)) (some q) (nI k) (nI e) (nI (P0 ++ tb_s rs 3 0 c k s).length) (nI j) (nI s) = some (0, mz_RH q sz (mz_mt (mz_wy rs a A B C) 2 (nI k) (tb_ow P1) (tb_uu rs k P1) 0 M'), 0, 0) ∧ ¬ tb_uu rs k P1 = -9 ∧ P0 ++ tb_s rs 3 0 c k 3 = P1 ++ z) := by
      intro M1 e1 hM ok1
      have I := ih (s + 1) f (upd M1 (e + 5) (M1 (e + 5) ||| tb_w rs k (c, s))) (by omega) (by omega) (by rw [add o]; exact ok1)
      rw [add o, List.length_append, show ((P0 ++ tb_s rs 3 0 c k s).length + [(c, s)].length) = (P0 ++ tb_s rs 3 0 c k s).length + 1 from rfl, show nI ((P0 ++ tb_s rs 3 0 c k s).length + 1) = nI (P0 ++ tb_s rs 3 0 c k s).length + 1 from (nI_add _ 1).symm, show nI (s + 1) = nI s + 1 from (nI_add s 1).symm] at I
      have e2 : fn_X12_enter_b25 rc (f + 1) (mz_RH q sz (mz_mt (mz_wy rs a A B C) r nm cl ot mn M)) (some q) (nI k) (nI e) (nI (P0 ++ tb_s rs 3 0 c k s).length) (nI j) (nI s) = fn_X12_enter_b25 rc f (mz_RH q sz (mz_mt (mz_wy rs a A B C) r nm cl ot mn (upd M1 (e + 5) (M1 (e + 5) ||| tb_w rs k (c, s))))) (some q) (nI k) (nI e) (nI (P0 ++ tb_s rs 3 0 c k s).length + 1) (nI j) (nI s + 1) := by
        rw [e1]
        have e13' : (mz_mt (mz_wy rs a A B C) r nm cl ot mn M1).2.1 13 (tb_p c s k) = tb_w rs k (c, s) := rfl
        simp only [fn_X12_enter_b208, rr_25, ra_25, rr_13, ra_13, rw_25, x5, ix_nI (show e + 5 < 217 by omega) (show 217 < 2 ^ 31 by omega), cl_nI (show e + 5 < 2 ^ 31 by omega), ix_nI (show tb_p c s k < 3720 by omega) (show 3720 < 2 ^ 31 by omega), cl_nI (show tb_p c s k < 2 ^ 31 by omega), e25, e13', mt_25, fn_X12_enter_b229, zo_s, if_true]
      rw [e2]
      rcases I with ⟨M', i1, i2, i3⟩ | I
      · exact Or.inl ⟨M', i1, i2, fun i hi => by rw [i3 i hi, pk_un (by omega), hM i hi]⟩
      · exact Or.inr I
    cases hPP : P0 ++ tb_s rs 3 0 c k s with
    | nil =>
      rw [hPP] at fin
      refine fin (upd (upd (upd (upd (upd (upd M e (nI k)) (e + 1) (nI c)) (e + 2) (nI s)) (e + 3) (tb_l rs k (c, s))) (e + 4) (tb_d rs k (c, s))) (e + 5) 0) ?_ (fun i hi => ?_) ⟨rfl, fun _ x hx => ?_⟩
      · have z0 : nI ([] : List (Nat × Nat)).length = 0 := rfl
        simp only [fn_X12_enter_b25, if_neg ng, rr_16, ra_16, rr_10, ra_10, rr_13, ra_13, rr_12, ra_12, rr_25, rw_25, ix_nI (show j < 40 by omega) (show 40 < 2 ^ 31 by omega), cl_nI (show j < 2 ^ 31 by omega), e16, l3, l31, ep, ix_nI (show tb_p c s k < 3720 by omega) (show 3720 < 2 ^ 31 by omega), cl_nI (show tb_p c s k < 2 ^ 31 by omega), e10, if_neg z, e13, if_pos z2, z0, x1, x2, x3, x4, x5, ix_nI (show e < 217 by omega) (show 217 < 2 ^ 31 by omega), cl_nI (show e < 2 ^ 31 by omega), ix_nI (show e + 1 < 217 by omega) (show 217 < 2 ^ 31 by omega), cl_nI (show e + 1 < 2 ^ 31 by omega), ix_nI (show e + 2 < 217 by omega) (show 217 < 2 ^ 31 by omega), cl_nI (show e + 2 < 2 ^ 31 by omega), ix_nI (show e + 3 < 217 by omega) (show 217 < 2 ^ 31 by omega), cl_nI (show e + 3 < 2 ^ 31 by omega), ix_nI (show e + 4 < 217 by omega) (show 217 < 2 ^ 31 by omega), cl_nI (show e + 4 < 2 ^ 31 by omega), ix_nI (show e + 5 < 217 by omega) (show 217 < 2 ^ 31 by omega), cl_nI (show e + 5 < 2 ^ 31 by omega), mt_25, mz_RH_is, LO, e12, zo_s, zc_t, zl_0, if_true]
      · rw [pk_un (by omega), pk_un (by omega), pk_un (by omega), pk_un (by omega), pk_un (by omega), pk_un (by omega)]
      · rcases (show x = 0 ∨ x = 1 ∨ x = 2 ∨ x = 3 ∨ x = 4 ∨ x = 5 by omega) with rfl | rfl | rfl | rfl | rfl | rfl
        · rw [pk_un (by omega), pk_un (by omega), pk_un (by omega), pk_un (by omega), pk_un (by omega), pk_un (by omega)]; exact pk_us
        · rw [pk_un (by omega), pk_un (by omega), pk_un (by omega), pk_un (by omega), pk_un (by omega), pk_us]; rfl
        · rw [pk_un (by omega), pk_un (by omega), pk_un (by omega), pk_un (by omega), pk_us]; rfl
        · rw [pk_un (by omega), pk_un (by omega), pk_un (by omega), pk_us]; rfl
        · rw [pk_un (by omega), pk_un (by omega), pk_us]; rfl
        · rw [pk_us, pk_us]; rfl
    | cons p rr =>
      rw [hPP] at fin ok hPb hPl add
      have v3 : M (e + 3) = tb_l rs k p := ok.2 (List.cons_ne_nil _ _) 3 (by omega)
      have v4 : M (e + 4) = tb_d rs k p := ok.2 (List.cons_ne_nil _ _) 4 (by omega)
      have v1 : M (e + 1) = nI p.1 := ok.2 (List.cons_ne_nil _ _) 1 (by omega)
      have n0 : ¬ nI (p :: rr).length = 0 := nI_ne0 (Nat.succ_pos _) (by omega)
      have uu : tb_u rs k p rr = -9 := ok.1
      have U := tb_u_app rs k p (c, s) rr fun z hz => hPb z (List.mem_cons_of_mem _ hz)
      rw [if_pos uu] at U
      have nc : ¬ nI c = -9 := nI_ne9 (by omega)
      have brk : ¬ (tb_l rs k p = tb_l rs k (c, s) ∧ tb_d rs k p = tb_d rs k (c, s)) → fn_X12_enter_b25 rc (f + 1) (mz_RH q sz (mz_mt (mz_wy rs a A B C) r nm cl ot mn M)) (some q) (nI k) (nI e) (nI (p :: rr).length) (nI j) (nI s) = fn_X12_enter_b190 (mz_RH q sz (mz_mt (mz_wy rs a A B C) r nm cl ot mn M)) (some q) (nI k) (nI e) (nI c) → ∃ M' P1 z, fn_X12_enter_b25 rc (f + 1) (mz_RH q sz (mz_mt (mz_wy rs a A B C) r nm cl ot mn M)) (some q) (nI k) (nI e) (nI (p :: rr).length) (nI j) (nI s) = some (0, mz_RH q sz (mz_mt (mz_wy rs a A B C) 2 (nI k) (tb_ow P1) (tb_uu rs k P1) 0 M'), 0, 0) ∧ ¬ tb_uu rs k P1 = -9 ∧ P0 ++ tb_s rs 3 0 c k 3 = P1 ++ z := by
        intro hd e1
        rw [if_neg hd] at U
        have uu' : tb_uu rs k (p :: rr ++ [(c, s)]) = nI c := U
        obtain ⟨y, ey⟩ := tb_s_pre rs 3 0 c k (s := s + 1) d
        rw [show s + 1 + d = 3 by omega] at ey
        refine ⟨M, p :: rr ++ [(c, s)], y, ?_, by rw [uu']; exact nc, by rw [ey, ← List.append_assoc, add o]⟩
        rw [e1, uu']
        have ow : tb_ow (p :: rr ++ [(c, s)]) = nI p.1 := rfl
        simp only [fn_X12_enter_b190, rr_25, ra_25, x1, ix_nI (show e + 1 < 217 by omega) (show 217 < 2 ^ 31 by omega), cl_nI (show e + 1 < 2 ^ 31 by omega), e25, v1, mz_RH_is, rs_breaks, ow, zo_s, zc_t, zl_0, zr_e, z_0, z_1, if_true]
      by_cases d3 : tb_l rs k p = tb_l rs k (c, s)
      · have d3' : M (e + 3) = tb_l rs k (c, s) := v3.trans d3
        by_cases d4 : tb_d rs k p = tb_d rs k (c, s)
        · have d4' : M (e + 4) = tb_d rs k (c, s) := v4.trans d4
          rw [if_pos ⟨d3, d4⟩] at U
          refine fin M ?_ (fun _ _ => rfl) ⟨U, fun _ x hx => ?_⟩
          · simp only [fn_X12_enter_b25, if_neg ng, rr_16, ra_16, rr_10, ra_10, rr_13, ra_13, rr_12, ra_12, rr_25, ra_25, ix_nI (show j < 40 by omega) (show 40 < 2 ^ 31 by omega), cl_nI (show j < 2 ^ 31 by omega), e16, l3, l31, ep, ix_nI (show tb_p c s k < 3720 by omega) (show 3720 < 2 ^ 31 by omega), cl_nI (show tb_p c s k < 2 ^ 31 by omega), e10, if_neg z, e13, if_pos z2, if_neg n0, x3, x4, ix_nI (show e + 3 < 217 by omega) (show 217 < 2 ^ 31 by omega), cl_nI (show e + 3 < 2 ^ 31 by omega), ix_nI (show e + 4 < 217 by omega) (show 217 < 2 ^ 31 by omega), cl_nI (show e + 4 < 2 ^ 31 by omega), e25, mz_RH_is, LO, if_pos d3', e12, if_pos d4', zo_s, zc_t, zl_0, if_true]
          · by_cases h5 : x = 5
            · subst h5
              rw [pk_us, ok.2 (List.cons_ne_nil _ _) 5 (by omega)]
              show tb_or rs k (p :: rr) ||| tb_w rs k (c, s) = tb_or rs k (p :: rr ++ [(c, s)])
              exact (tb_or_app ..).symm
            · rw [pk_un (by omega), ok.2 (List.cons_ne_nil _ _) x hx]
              unfold tb_val
              by_cases h0 : x = 0
              · rw [if_pos h0, if_pos h0]
              · rw [if_neg h0, if_neg h0, if_neg h5, if_neg h5, if_neg (by omega), if_neg (by omega)]
                rfl
        · have d4' : ¬ M (e + 4) = tb_d rs k (c, s) := fun y => d4 (v4.symm.trans y)
          refine Or.inr (brk (fun y => d4 y.2) ?_)
          simp only [fn_X12_enter_b25, if_neg ng, rr_16, ra_16, rr_10, ra_10, rr_13, ra_13, rr_12, ra_12, rr_25, ra_25, ix_nI (show j < 40 by omega) (show 40 < 2 ^ 31 by omega), cl_nI (show j < 2 ^ 31 by omega), e16, l3, l31, ep, ix_nI (show tb_p c s k < 3720 by omega) (show 3720 < 2 ^ 31 by omega), cl_nI (show tb_p c s k < 2 ^ 31 by omega), e10, if_neg z, e13, if_pos z2, if_neg n0, x3, x4, ix_nI (show e + 3 < 217 by omega) (show 217 < 2 ^ 31 by omega), cl_nI (show e + 3 < 2 ^ 31 by omega), ix_nI (show e + 4 < 217 by omega) (show 217 < 2 ^ 31 by omega), cl_nI (show e + 4 < 2 ^ 31 by omega), e25, mz_RH_is, LO, if_pos d3', e12, if_neg d4', zo_s, zc_t, zl_0, if_true]
      · have d3' : ¬ M (e + 3) = tb_l rs k (c, s) := fun y => d3 (v3.symm.trans y)
        refine Or.inr (brk (fun y => d3 y.1) ?_)
        simp only [fn_X12_enter_b25, if_neg ng, rr_16, ra_16, rr_10, ra_10, rr_13, ra_13, rr_25, ra_25, ix_nI (show j < 40 by omega) (show 40 < 2 ^ 31 by omega), cl_nI (show j < 2 ^ 31 by omega), e16, l3, l31, ep, ix_nI (show tb_p c s k < 3720 by omega) (show 3720 < 2 ^ 31 by omega), cl_nI (show tb_p c s k < 2 ^ 31 by omega), e10, if_neg z, e13, if_pos z2, if_neg n0, x3, ix_nI (show e + 3 < 217 by omega) (show 217 < 2 ^ 31 by omega), cl_nI (show e + 3 < 2 ^ 31 by omega), e25, mz_RH_is, LO, if_neg d3', zo_s, zc_t, zl_0, if_true]
end

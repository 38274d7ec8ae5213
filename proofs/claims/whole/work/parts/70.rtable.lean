/-! the reference makes a table -/
def mz_mt (rs : mz_RS) (r nm cl ot mn : Int32) (M : Nat → Int32) : mz_RS := (fun k => if k = 20 then r else if k = 21 then nm else if k = 22 then cl else if k = 23 then ot else if k = 24 then mn else rs.1 k, fun k => if k = 25 then M else rs.2.1 k, rs.2.2)
theorem mt_id (rs : mz_RS) : rs = mz_mt rs (rs.1 20) (rs.1 21) (rs.1 22) (rs.1 23) (rs.1 24) (rs.2.1 25) := by
  refine Prod.ext (funext fun k => ?_) (Prod.ext (funext fun k => ?_) rfl)
  · show rs.1 k = if k = 20 then rs.1 20 else if k = 21 then rs.1 21 else if k = 22 then rs.1 22 else if k = 23 then rs.1 23 else if k = 24 then rs.1 24 else rs.1 k
    repeat' split
    all_goals first | rfl | (rename_i h; rw [h])
  · show rs.2.1 k = if k = 25 then rs.2.1 25 else rs.2.1 k
    split
    · rename_i h
      rw [h]
    · rfl
section
variable {rs : mz_RS} {r nm cl ot mn : Int32} {M : Nat → Int32}
theorem mt_20 (v : Int32) : mz_si (mz_mt rs r nm cl ot mn M) 20 v = mz_mt rs v nm cl ot mn M := by
  refine Prod.ext (funext fun k => ?_) rfl
  show (if k = 20 then v else if k = 20 then r else _) = if k = 20 then v else _
  split
  · rfl
  · rfl
theorem mt_21 (v : Int32) : mz_si (mz_mt rs r nm cl ot mn M) 21 v = mz_mt rs r v cl ot mn M := by
  refine Prod.ext (funext fun k => ?_) rfl
  show (if k = 21 then v else if k = 20 then r else if k = 21 then nm else if k = 22 then cl else if k = 23 then ot else if k = 24 then mn else rs.1 k) = if k = 20 then r else if k = 21 then v else if k = 22 then cl else if k = 23 then ot else if k = 24 then mn else rs.1 k
  by_cases h : k = 21
  · subst h; rfl
  · simp only [if_neg h]
theorem mt_22 (v : Int32) : mz_si (mz_mt rs r nm cl ot mn M) 22 v = mz_mt rs r nm v ot mn M := by
  refine Prod.ext (funext fun k => ?_) rfl
  show (if k = 22 then v else if k = 20 then r else if k = 21 then nm else if k = 22 then cl else if k = 23 then ot else if k = 24 then mn else rs.1 k) = if k = 20 then r else if k = 21 then nm else if k = 22 then v else if k = 23 then ot else if k = 24 then mn else rs.1 k
  by_cases h : k = 22
  · subst h; rfl
  · simp only [if_neg h]
theorem mt_23 (v : Int32) : mz_si (mz_mt rs r nm cl ot mn M) 23 v = mz_mt rs r nm cl v mn M := by
  refine Prod.ext (funext fun k => ?_) rfl
  show (if k = 23 then v else if k = 20 then r else if k = 21 then nm else if k = 22 then cl else if k = 23 then ot else if k = 24 then mn else rs.1 k) = if k = 20 then r else if k = 21 then nm else if k = 22 then cl else if k = 23 then v else if k = 24 then mn else rs.1 k
  by_cases h : k = 23
  · subst h; rfl
  · simp only [if_neg h]
theorem mt_24 (v : Int32) : mz_si (mz_mt rs r nm cl ot mn M) 24 v = mz_mt rs r nm cl ot v M := by
  refine Prod.ext (funext fun k => ?_) rfl
  show (if k = 24 then v else if k = 20 then r else if k = 21 then nm else if k = 22 then cl else if k = 23 then ot else if k = 24 then mn else rs.1 k) = if k = 20 then r else if k = 21 then nm else if k = 22 then cl else if k = 23 then ot else if k = 24 then v else rs.1 k
  by_cases h : k = 24
  · subst h; rfl
  · simp only [if_neg h]
theorem mt_25 (i : Nat) (v : Int32) : mz_sa (mz_mt rs r nm cl ot mn M) 25 i v = mz_mt rs r nm cl ot mn (upd M i v) := by
  refine Prod.ext rfl (Prod.ext (funext fun k => ?_) rfl)
  show (if k = 25 then upd M i v else if k = 25 then M else rs.2.1 k) = if k = 25 then upd M i v else rs.2.1 k
  by_cases h : k = 25
  · rw [if_pos h, if_pos h]
  · rw [if_neg h, if_neg h, if_neg h]
theorem rs_breaks (q sz : Nat) (x1 x2 x3 x4 : Int32) : fn_X12_breaks (mz_RH q sz (mz_mt rs r nm cl ot mn M)) (some q) x1 x2 x3 x4 = some ((), mz_RH q sz (mz_mt rs x1 x2 x3 x4 0 M), 0, 0) := by
  simp only [fn_X12_breaks, rp_20, rp_21, rp_22, rp_23, rp_24, mt_20, mt_21, mt_22, mt_23, mt_24, zo_s, zc_t, zl_0, zr_e, z_0, z_1, if_true]
end
theorem tb_s_pre (rs : mz_RS) (a b : Int32) (c k : Nat) {s : Nat} : ∀ d, ∃ z, tb_s rs a b c k (s + d) = tb_s rs a b c k s ++ z
  | 0 => ⟨[], (List.append_nil _).symm⟩
  | d + 1 => by
    obtain ⟨z, e⟩ := tb_s_pre rs a b c k (s := s) d
    exact ⟨z ++ (if tb_o rs a b c (s + d) k then [(c, s + d)] else []), by rw [← List.append_assoc, ← e]; rfl⟩
theorem tb_f_mid (rs : mz_RS) (a b : Int32) (pre rest : List Nat) (c k : Nat) : tb_f rs a b (pre ++ c :: rest) k = tb_f rs a b pre k ++ (tb_s rs a b c k 3 ++ tb_f rs a b rest k) := by
  unfold tb_f
  rw [List.flatMap_append, List.flatMap_cons]
section
variable {n m : Nat} {rs : mz_RS} {lv : Nat → Int32} {mk : Nat → Nat} {mm : Nat → Nat → Nat × Nat}
/-- a member's index, and what stands there -/
theorem rs_mark (wm : mz_wm n rs mk mm) {c s k : Nat} (hc : c < n) (hs : s < 3) (hk : k < 31) (a b : Int32) : (rs.2.1 10 (tb_p c s k) = 0 ∧ tb_o rs a b c s k = false) ∨ (¬ rs.2.1 10 (tb_p c s k) = 0 ∧ ((rs.2.1 13 (tb_p c s k) &&& a) = b ∧ tb_o rs a b c s k = true ∨ ¬ (rs.2.1 13 (tb_p c s k) &&& a) = b ∧ tb_o rs a b c s k = false)) := by
  rcases wm.2.2.2.1 c hc s k hs hk with ⟨h, -⟩ | ⟨h, -⟩
  · have h' : rs.2.1 10 (tb_p c s k) = 1 := h
    refine Or.inr ⟨by rw [h']; decide, ?_⟩
    unfold tb_o tb_k
    rw [h']
    by_cases e : (rs.2.1 13 (tb_p c s k) &&& a) = b
    · exact Or.inl ⟨e, by rw [decide_eq_true e]; rfl⟩
    · exact Or.inr ⟨e, by rw [decide_eq_false e]; rfl⟩
  · have h' : rs.2.1 10 (tb_p c s k) = 0 := h
    refine Or.inl ⟨h', ?_⟩
    unfold tb_o
    rw [h']
    rfl
variable {a : Int32} {A B C M : Nat → Int32} {r nm cl ot mn : Int32}
theorem rs_skS (q sz : Nat) (wm : mz_wm n rs mk mm) (hn : n ≤ 40) {c k j : Nat} (hc : c < n) (hk : k < 31) (hj : j < 40) (hA : A j = nI c) (rc2 : mz_H → Option Nat → Int32 → mz_Res Int32) (rc10 : mz_H → Option Nat → Int32 → Int32 → mz_Res Int32) : ∀ (d s f : Nat), s + d = 3 → d < f → tb_s rs 6 6 c k s = [] → (fn_X12_hasStaticKey_b20 rc2 rc10 f (mz_RH q sz (mz_mt (mz_wy rs a A B C) r nm cl ot mn M)) (some q) (nI k) (nI j) (nI s) = rc10 (mz_RH q sz (mz_mt (mz_wy rs a A B C) r nm cl ot mn M)) (some q) (nI k) (nI j + 1) ∧ tb_s rs 6 6 c k 3 = []) ∨ (fn_X12_hasStaticKey_b20 rc2 rc10 f (mz_RH q sz (mz_mt (mz_wy rs a A B C) r nm cl ot mn M)) (some q) (nI k) (nI j) (nI s) = some (1, mz_RH q sz (mz_mt (mz_wy rs a A B C) 1 (nI k) (nI c) (-9) 0 M), 0, 0) ∧ ∃ s0 z, tb_s rs 6 6 c k 3 = (c, s0) :: z) := by
  intro d
  induction d with
  | zero =>
    intro s f hs hf h0
    obtain ⟨f, rfl⟩ : ∃ g', f = g' + 1 := ⟨f - 1, by omega⟩
    have e : s = 3 := by omega
    subst e
    exact Or.inl ⟨by simp only [fn_X12_hasStaticKey_b20, if_pos (show (3 : Int32) ≤ nI 3 from Int32.le_refl _), zo_s], h0⟩
  | succ d ih =>
    intro s f hs hf h0
    obtain ⟨f, rfl⟩ : ∃ g', f = g' + 1 := ⟨f - 1, by omega⟩
    have ng : ¬ (3 : Int32) ≤ nI s := nI_ge (b := 3) (by omega) (by omega)
    have e16 : (mz_mt (mz_wy rs a A B C) r nm cl ot mn M).2.1 16 j = nI c := hA
    have e10 : (mz_mt (mz_wy rs a A B C) r nm cl ot mn M).2.1 10 ((3 * c + s) * 31 + k) = rs.2.1 10 (tb_p c s k) := rfl
    have e13 : (mz_mt (mz_wy rs a A B C) r nm cl ot mn M).2.1 13 ((3 * c + s) * 31 + k) = rs.2.1 13 (tb_p c s k) := rfl
    have go : tb_o rs 6 6 c s k = false → fn_X12_hasStaticKey_b20 rc2 rc10 (f + 1) (mz_RH q sz (mz_mt (mz_wy rs a A B C) r nm cl ot mn M)) (some q) (nI k) (nI j) (nI s) = fn_X12_hasStaticKey_b20 rc2 rc10 f (mz_RH q sz (mz_mt (mz_wy rs a A B C) r nm cl ot mn M)) (some q) (nI k) (nI j) (nI s + 1) → (fn_X12_hasStaticKey_b20 rc2 rc10 (f + 1) (mz_RH q sz (mz_mt (mz_wy rs a A B C) r nm cl ot mn M)) (some q) (nI k) (nI j) (nI s) = rc10 (mz_RH q sz (mz_mt (mz_wy rs a A B C) r nm cl ot mn M)) (some q) (nI k) (nI j + 1) ∧ tb_s rs 6 6 c k 3 = []) ∨ (fn_X12_hasStaticKey_b20 rc2 rc10 (f + 1) (mz_RH q sz (mz_mt (mz_wy rs a A B C) r nm cl ot mn M)) (some q) (nI k) (nI j) (nI s) = some (1, mz_RH q sz (mz_mt (mz_wy rs a A B C) 1 (nI k) (nI c) (-9) 0 M), 0, 0) ∧ ∃ s0 z, tb_s rs 6 6 c k 3 = (c, s0) :: z) := by
      intro o e
      have I := ih (s + 1) f (by omega) (by omega) (by rw [tb_s, h0, o]; rfl)
      rw [show nI (s + 1) = nI s + 1 from (nI_add s 1).symm] at I
      rw [e]
      exact I
    rcases rs_mark wm hc (show s < 3 by omega) hk 6 6 with ⟨z, o⟩ | ⟨z, ⟨z2, o⟩ | ⟨z2, o⟩⟩
    · refine go o ?_
      simp only [fn_X12_hasStaticKey_b20, if_neg ng, rr_16, ra_16, rr_10, ra_10, ix_nI (show j < 40 by omega) (show 40 < 2 ^ 31 by omega), cl_nI (show j < 2 ^ 31 by omega), e16, l3, l31, ix_nI (show (3 * c + s) * 31 + k < 3720 by omega) (show 3720 < 2 ^ 31 by omega), cl_nI (show (3 * c + s) * 31 + k < 2 ^ 31 by omega), e10, if_pos z, fn_X12_hasStaticKey_b83, zo_s, if_true]
    · right
      refine ⟨?_, ?_⟩
      · simp only [fn_X12_hasStaticKey_b20, if_neg ng, rr_16, ra_16, rr_10, ra_10, rr_13, ra_13, ix_nI (show j < 40 by omega) (show 40 < 2 ^ 31 by omega), cl_nI (show j < 2 ^ 31 by omega), e16, l3, l31, ix_nI (show (3 * c + s) * 31 + k < 3720 by omega) (show 3720 < 2 ^ 31 by omega), cl_nI (show (3 * c + s) * 31 + k < 2 ^ 31 by omega), e10, if_neg z, e13, if_pos z2, mz_RH_is, rs_breaks, zo_s, zc_t, zl_0, zr_e, z_0, z_1, if_true]
      · obtain ⟨y, e⟩ := tb_s_pre rs 6 6 c k (s := s + 1) d
        refine ⟨s, y, ?_⟩
        rw [show s + 1 + d = 3 by omega] at e
        rw [e, tb_s, h0, o]
        rfl
    · refine go o ?_
      simp only [fn_X12_hasStaticKey_b20, if_neg ng, rr_16, ra_16, rr_10, ra_10, rr_13, ra_13, ix_nI (show j < 40 by omega) (show 40 < 2 ^ 31 by omega), cl_nI (show j < 2 ^ 31 by omega), e16, l3, l31, ix_nI (show (3 * c + s) * 31 + k < 3720 by omega) (show 3720 < 2 ^ 31 by omega), cl_nI (show (3 * c + s) * 31 + k < 2 ^ 31 by omega), e10, if_neg z, e13, if_neg z2, fn_X12_hasStaticKey_b83, zo_s, if_true]
theorem rs_skW (q sz : Nat) (wm : mz_wm n rs mk mm) (hn : n ≤ 40) {k : Nat} (hk : k < 31) {ws : List Nat} (hw : ∀ y, y ∈ ws → y < n) (hl : ws.length ≤ 40) (W : wy_W ws a A) (rc2 : mz_H → Option Nat → Int32 → mz_Res Int32) : ∀ (rest pre : List Nat) (f : Nat), ws = pre ++ rest → rest.length < f → tb_f rs 6 6 pre k = [] → (fn_X12_hasStaticKey_b10 rc2 f (mz_RH q sz (mz_mt (mz_wy rs a A B C) r nm cl ot mn M)) (some q) (nI k) (nI pre.length) = rc2 (mz_RH q sz (mz_mt (mz_wy rs a A B C) r nm cl ot mn M)) (some q) (nI k + 1) ∧ tb_f rs 6 6 ws k = []) ∨ ∃ c0 s0 z, fn_X12_hasStaticKey_b10 rc2 f (mz_RH q sz (mz_mt (mz_wy rs a A B C) r nm cl ot mn M)) (some q) (nI k) (nI pre.length) = some (1, mz_RH q sz (mz_mt (mz_wy rs a A B C) 1 (nI k) (nI c0) (-9) 0 M), 0, 0) ∧ tb_f rs 6 6 ws k = (c0, s0) :: z := by
  have e17 : (mz_mt (mz_wy rs a A B C) r nm cl ot mn M).1 17 = nI ws.length := W.1
  intro rest
  induction rest with
  | nil =>
    intro pre f e hf h0
    obtain ⟨f, rfl⟩ : ∃ g', f = g' + 1 := ⟨f - 1, by omega⟩
    rw [List.append_nil] at e
    subst e
    exact Or.inl ⟨by simp only [fn_X12_hasStaticKey_b10, rg_17, e17, if_pos (Int32.le_refl _), zo_s], h0⟩
  | cons c rest ih =>
    intro pre f e hf h0
    have hf' : rest.length + 1 < f := hf
    obtain ⟨f, rfl⟩ : ∃ g', f = g' + 1 := ⟨f - 1, by omega⟩
    have hlen : ws.length = pre.length + (rest.length + 1) := by rw [e, List.length_append]; rfl
    have hc : c < n := hw c (by rw [e]; simp)
    have hj : pre.length < ws.length := by omega
    have eA : A pre.length = nI c := by
      rw [W.2 _ hj, e]
      simp [List.getD_eq_getElem?_getD]
    have ng := nI_ge hj (show ws.length < 2 ^ 31 by omega)
    rcases rs_skS (B := B) (C := C) (M := M) (r := r) (nm := nm) (cl := cl) (ot := ot) (mn := mn) (a := a) q sz wm hn hc hk (show pre.length < 40 by omega) eA rc2 (fn_X12_hasStaticKey_b10 rc2 f) 3 0 1001 (by omega) (by omega) rfl with ⟨k1, z1⟩ | ⟨k1, s0, z, z1⟩
    · have k1' : fn_X12_hasStaticKey_b20 rc2 (fn_X12_hasStaticKey_b10 rc2 f) 1001 (mz_RH q sz (mz_mt (mz_wy rs a A B C) r nm cl ot mn M)) (some q) (nI k) (nI pre.length) 0 = _ := k1
      have I := ih (pre ++ [c]) f (by rw [e]; simp) (by omega) (by rw [tb_f_app, h0, z1]; rfl)
      rw [show (pre ++ [c]).length = pre.length + 1 by simp, show nI (pre.length + 1) = nI pre.length + 1 from (nI_add _ 1).symm] at I
      have e1 : fn_X12_hasStaticKey_b10 rc2 (f + 1) (mz_RH q sz (mz_mt (mz_wy rs a A B C) r nm cl ot mn M)) (some q) (nI k) (nI pre.length) = fn_X12_hasStaticKey_b10 rc2 f (mz_RH q sz (mz_mt (mz_wy rs a A B C) r nm cl ot mn M)) (some q) (nI k) (nI pre.length + 1) := by
        rw [fn_X12_hasStaticKey_b10]
        simp only [rg_17, e17, if_neg ng, k1', zo_s]
      rw [e1]
      exact I
    · have k1' : fn_X12_hasStaticKey_b20 rc2 (fn_X12_hasStaticKey_b10 rc2 f) 1001 (mz_RH q sz (mz_mt (mz_wy rs a A B C) r nm cl ot mn M)) (some q) (nI k) (nI pre.length) 0 = _ := k1
      refine Or.inr ⟨c, s0, z ++ tb_f rs 6 6 rest k, ?_, ?_⟩
      · simp only [fn_X12_hasStaticKey_b10, rg_17, e17, if_neg ng, k1', zo_s]
      · rw [e, tb_f_mid, h0, z1]
        rfl
theorem rs_skN (q sz : Nat) (wm : mz_wm n rs mk mm) (hn : n ≤ 40) {ws : List Nat} (hw : ∀ y, y ∈ ws → y < n) (hl : ws.length ≤ 40) (W : wy_W ws a A) : ∀ (d k f : Nat), k + d = 31 → d < f → (∀ k', k' < k → tb_f rs 6 6 ws k' = []) → (fn_X12_hasStaticKey_b2 f (mz_RH q sz (mz_mt (mz_wy rs a A B C) r nm cl ot mn M)) (some q) (nI k) = some (0, mz_RH q sz (mz_mt (mz_wy rs a A B C) r nm cl ot mn M), 0, 0) ∧ ∀ k', k' < 31 → tb_f rs 6 6 ws k' = []) ∨ ∃ k0 c0 s0 z, k0 < 31 ∧ tb_f rs 6 6 ws k0 = (c0, s0) :: z ∧ (∀ k', k' < k0 → tb_f rs 6 6 ws k' = []) ∧ fn_X12_hasStaticKey_b2 f (mz_RH q sz (mz_mt (mz_wy rs a A B C) r nm cl ot mn M)) (some q) (nI k) = some (1, mz_RH q sz (mz_mt (mz_wy rs a A B C) 1 (nI k0) (nI c0) (-9) 0 M), 0, 0) := by
  intro d
  induction d with
  | zero =>
    intro k f hk hf h0
    obtain ⟨f, rfl⟩ : ∃ g', f = g' + 1 := ⟨f - 1, by omega⟩
    have e : k = 31 := by omega
    subst e
    exact Or.inl ⟨by simp only [fn_X12_hasStaticKey_b2, if_pos (show (31 : Int32) ≤ nI 31 from Int32.le_refl _), zo_s, zc_t, zl_0, zr_e, z_0, z_1, if_true], h0⟩
  | succ d ih =>
    intro k f hk hf h0
    obtain ⟨f, rfl⟩ : ∃ g', f = g' + 1 := ⟨f - 1, by omega⟩
    have ng : ¬ (31 : Int32) ≤ nI k := nI_ge (b := 31) (by omega) (by omega)
    rcases rs_skW (B := B) (C := C) (M := M) (r := r) (nm := nm) (cl := cl) (ot := ot) (mn := mn) q sz wm hn (show k < 31 by omega) hw hl W (fn_X12_hasStaticKey_b2 f) ws [] 1001 rfl (by omega) rfl with ⟨k1, z1⟩ | ⟨c0, s0, z, k1, z1⟩
    · have k1' : fn_X12_hasStaticKey_b10 (fn_X12_hasStaticKey_b2 f) 1001 (mz_RH q sz (mz_mt (mz_wy rs a A B C) r nm cl ot mn M)) (some q) (nI k) 0 = _ := k1
      have I := ih (k + 1) f (by omega) (by omega) (fun k' hk' => by
        rcases (show k' = k ∨ k' < k by omega) with rfl | z
        · exact z1
        · exact h0 k' z)
      rw [show nI (k + 1) = nI k + 1 from (nI_add k 1).symm] at I
      have e1 : fn_X12_hasStaticKey_b2 (f + 1) (mz_RH q sz (mz_mt (mz_wy rs a A B C) r nm cl ot mn M)) (some q) (nI k) = fn_X12_hasStaticKey_b2 f (mz_RH q sz (mz_mt (mz_wy rs a A B C) r nm cl ot mn M)) (some q) (nI k + 1) := by
        rw [fn_X12_hasStaticKey_b2]
        simp only [if_neg ng, k1']
      rw [e1]
      exact I
    · have k1' : fn_X12_hasStaticKey_b10 (fn_X12_hasStaticKey_b2 f) 1001 (mz_RH q sz (mz_mt (mz_wy rs a A B C) r nm cl ot mn M)) (some q) (nI k) 0 = _ := k1
      refine Or.inr ⟨k, c0, s0, z, by omega, z1, h0, ?_⟩
      rw [fn_X12_hasStaticKey_b2]
      simp only [if_neg ng, k1']
end

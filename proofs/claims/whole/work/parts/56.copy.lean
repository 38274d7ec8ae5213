/-! copy -/
def mz_rg (N : Nat) (i n : Int32) : Prop := ∃ i0 n0 : Nat, i = nI i0 ∧ n = nI n0 ∧ i0 + n0 ≤ N
theorem lg_pos (x y : Int64) : 0 < lg_cmp x y ↔ y < x := by
  unfold lg_cmp
  by_cases h : x > y
  · rw [if_pos h]
    exact ⟨fun _ => h, fun _ => by decide⟩
  · rw [if_neg h]
    by_cases h2 : x = y
    · rw [if_pos h2]
      exact ⟨fun e => absurd e (by decide), fun e => absurd e h⟩
    · rw [if_neg h2]
      exact ⟨fun e => absurd e (by decide), fun e => absurd e h⟩
theorem rg_iff {N : Nat} (hN : N ≤ 30) {i n : Int32} (hi : ¬ i < 0) (hn : ¬ n < 0) : 0 < lg_cmp (i.toInt64 + n.toInt64) (nI N).toInt64 ↔ ¬ mz_rg N i n := by
  obtain ⟨i0, hi0, rfl⟩ := nI_of hi
  obtain ⟨n0, hn0, rfl⟩ := nI_of hn
  rw [lg_pos, Int64.lt_iff_toInt_lt, lg_i2l_add, Int32.toInt_toInt64, nI_toInt hi0, nI_toInt hn0, nI_toInt (show N < 2 ^ 31 by omega)]
  constructor
  · rintro h ⟨a, b, ea, eb, hab⟩
    have := congrArg Int32.toInt ea
    have := congrArg Int32.toInt eb
    by_cases ha : a < 2 ^ 31
    · by_cases hb : b < 2 ^ 31
      · have e1 := (nI_eq hi0 ha).mp ea
        have e2 := (nI_eq hn0 hb).mp eb
        omega
      · omega
    · omega
  · intro h
    rcases Nat.lt_or_ge N (i0 + n0) with q | q
    · omega
    · exact absurd ⟨i0, n0, rfl, rfl, q⟩ h
theorem rg_neg {N : Nat} (hN : N ≤ 30) {i n : Int32} (hi : i < 0 ∨ n < 0) : ¬ mz_rg N i n := by
  rintro ⟨a, b, rfl, rfl, hab⟩
  rcases hi with q | q
  · exact nI_pos (show a < 2 ^ 31 by omega) q
  · exact nI_pos (show b < 2 ^ 31 by omega) q
theorem cs_hasRange {h : mz_H} {a a1 N : Nat} {F : Nat → Int64} (ra : h.1 a = some (.inr (4, [.ref a1]))) (ca : h.1 a1 = some (.inl (1, N, .inr (.inl F)))) (hN : N ≤ 30) (i n : Int32) : ∃ r, fn_X5_hasRange h (some a) i n = some (r, h, 0, 0) ∧ al_P (mz_rg N i n) r := by
  have g1 : mz_fR h (some a) 4 0 = some (some a1) := fR_of (r := some a1) ra rfl
  by_cases c1 : i < 0
  · exact ⟨0, by simp only [fn_X5_hasRange, if_pos c1, zo_s, zc_t, zl_0, zr_e, z_0, z_1, if_true], al_P.no (rg_neg hN (Or.inl c1))⟩
  obtain ⟨i0, hi0, rfl⟩ := nI_of c1
  by_cases c2 : nI N < nI i0
  · refine ⟨0, by simp only [fn_X5_hasRange, if_neg c1, g1, len_of ca, if_pos c2, zo_s, zc_t, zl_0, zr_e, z_0, z_1, if_true], al_P.no ?_⟩
    rintro ⟨a, b, ea, rfl, hab⟩
    have e1 := (nI_eq hi0 (show a < 2 ^ 31 by omega)).mp ea
    exact nI_nlt (show i0 ≤ N by omega) (by omega) c2
  by_cases c3 : n < 0
  · exact ⟨0, by simp only [fn_X5_hasRange, if_neg c1, g1, len_of ca, if_neg c2, if_pos c3, zo_s, zc_t, zl_0, zr_e, z_0, z_1, if_true], al_P.no (rg_neg hN (Or.inr c3))⟩
  obtain ⟨n0, hn0, rfl⟩ := nI_of c3
  have hle : i0 ≤ N := by
    rcases Nat.lt_or_ge N i0 with q | q
    · exact absurd (nI_lt q hi0) c2
    · exact q
  have es : nI N - nI i0 = nI (N - i0) := by
    have e : nI N = nI (N - i0) + nI i0 := by rw [nI_add, Nat.sub_add_cancel hle]
    rw [e]
    exact Int32.add_sub_cancel _ _
  by_cases c4 : nI (N - i0) < nI n0
  · refine ⟨0, by simp only [fn_X5_hasRange, if_neg c1, g1, len_of ca, if_neg c2, if_neg c3, es, if_pos c4, zo_s, zc_t, zl_0, zr_e, z_0, z_1, if_true], al_P.no ?_⟩
    rintro ⟨a, b, ea, eb, hab⟩
    have e1 := (nI_eq hi0 (show a < 2 ^ 31 by omega)).mp ea
    have e2 := (nI_eq hn0 (show b < 2 ^ 31 by omega)).mp eb
    exact nI_nlt (show n0 ≤ N - i0 by omega) (by omega) c4
  · refine ⟨1, by simp only [fn_X5_hasRange, if_neg c1, g1, len_of ca, if_neg c2, if_neg c3, es, if_neg c4, zo_s, zc_t, zl_0, zr_e, z_0, z_1, if_true], al_P.yes ⟨i0, n0, rfl, rfl, ?_⟩⟩
    rcases Nat.lt_or_ge (N - i0) n0 with q | q
    · exact absurd (nI_lt q hn0) c4
    · omega
theorem arJ_of {h : mz_H} {a N : Nat} {f : Nat → Int64} (hc : h.1 a = some (.inl (1, N, .inr (.inl f)))) : mz_arJ h (some a) = some (N, f) := by simp only [mz_arJ, mz_ar, hc, if_true]
def mz_q3 (rs : mz_RS) (F : Nat → Int64) : mz_RS := (rs.1, rs.2.1, fun k => if k = 43 then F else rs.2.2 k)
theorem q3_id (rs : mz_RS) : rs = mz_q3 rs (rs.2.2 43) := by
  refine Prod.ext rfl (Prod.ext rfl (funext fun k => ?_))
  show rs.2.2 k = if k = 43 then rs.2.2 43 else rs.2.2 k
  by_cases h : k = 43
  · rw [if_pos h, h]
  · rw [if_neg h]
theorem q3_s (rs : mz_RS) (F : Nat → Int64) (i : Nat) (v : Int64) : mz_sj (mz_q3 rs F) 43 i v = mz_q3 rs (vp_updL F i v) := by
  refine Prod.ext rfl (Prod.ext rfl (funext fun k => ?_))
  show (if k = 43 then vp_updL F i v else if k = 43 then F else rs.2.2 k) = if k = 43 then vp_updL F i v else rs.2.2 k
  by_cases h : k = 43
  · rw [if_pos h, if_pos h]
  · rw [if_neg h, if_neg h, if_neg h]
theorem cpy_0 (G : Nat → Int64) (sp dp : Nat) : va_cpy G G sp dp 0 = G := by
  funext k
  exact if_neg (by omega)
theorem cpy_up (G : Nat → Int64) {sp dp x : Nat} (h : ¬ (dp ≤ sp + x ∧ sp + x < dp + x)) : vp_updL (va_cpy G G sp dp x) (dp + x) (va_cpy G G sp dp x (sp + x)) = va_cpy G G sp dp (x + 1) := by
  have e1 : va_cpy G G sp dp x (sp + x) = G (sp + x) := if_neg h
  rw [e1]
  funext k
  show (if k = dp + x then G (sp + x) else if dp ≤ k ∧ k < dp + x then G (sp + (k - dp)) else G k) = if dp ≤ k ∧ k < dp + (x + 1) then G (sp + (k - dp)) else G k
  by_cases hk : k = dp + x
  · subst hk
    rw [if_pos rfl, if_pos (by omega)]
    congr 1
    omega
  · rw [if_neg hk]
    by_cases h2 : dp ≤ k ∧ k < dp + x
    · rw [if_pos h2, if_pos (by omega)]
    · rw [if_neg h2, if_neg (by omega)]
theorem cpy_dn (G : Nat → Int64) {sp dp x : Nat} (h : ¬ (dp + 1 ≤ sp ∧ sp < dp + 1 + x)) : vp_updL (va_cpy G G (sp + 1) (dp + 1) x) dp (va_cpy G G (sp + 1) (dp + 1) x sp) = va_cpy G G sp dp (x + 1) := by
  have e1 : va_cpy G G (sp + 1) (dp + 1) x sp = G sp := if_neg h
  rw [e1]
  funext k
  show (if k = dp then G sp else if dp + 1 ≤ k ∧ k < dp + 1 + x then G (sp + 1 + (k - (dp + 1))) else G k) = if dp ≤ k ∧ k < dp + (x + 1) then G (sp + (k - dp)) else G k
  by_cases hk : k = dp
  · subst hk
    rw [if_pos rfl, if_pos (by omega)]
    congr 1
    omega
  · rw [if_neg hk]
    by_cases h2 : dp + 1 ≤ k ∧ k < dp + 1 + x
    · rw [if_pos h2, if_pos (by omega)]
      congr 1
      omega
    · rw [if_neg h2, if_neg (by omega)]
theorem rs_cpyF (q sz : Nat) (rs : mz_RS) {A B i k N : Nat} (hA : A < 960) (hB : B < 960) (hi : i + N ≤ 30) (hk : k + N ≤ 30) (hd : 900 * B + k ≤ 900 * A + i ∨ 900 * A + i + N ≤ 900 * B + k) : ∀ (d x f : Nat), x + d = N → d < f → fn_X12_copy_b186 f (mz_RH q sz (mz_q3 rs (va_cpy (rs.2.2 43) (rs.2.2 43) (900 * A + i) (900 * B + k) x))) (some q) (nI i) (nI k) (nI N) (nI A) (nI B) 1 (nI x) = some (nI N, mz_RH q sz (mz_q3 rs (va_cpy (rs.2.2 43) (rs.2.2 43) (900 * A + i) (900 * B + k) N)), 0, 0) := by
  intro d
  induction d with
  | zero =>
    intro x f hx hf
    obtain ⟨f, rfl⟩ : ∃ g', f = g' + 1 := ⟨f - 1, by omega⟩
    have e : x = N := by omega
    subst e
    simp only [fn_X12_copy_b186, if_pos (Int32.le_refl _), zo_s, zc_t, zl_0, zr_e, z_0, z_1, if_true]
  | succ d ih =>
    intro x f hx hf
    obtain ⟨f, rfl⟩ : ∃ g', f = g' + 1 := ⟨f - 1, by omega⟩
    have I := ih (x + 1) f (by omega) (by omega)
    rw [show nI (x + 1) = nI x + 1 from (nI_add x 1).symm, ← cpy_up (rs.2.2 43) (show ¬ (900 * B + k ≤ 900 * A + i + x ∧ 900 * A + i + x < 900 * B + k + x) by omega)] at I
    have ng := nI_ge (show x < N by omega) (show N < 2 ^ 31 by omega)
    have ix1 : (900 : Int32) * nI A + nI i + nI x = nI (900 * A + i + x) := by rw [l900, nI_add]
    have ix2 : (900 : Int32) * nI B + nI k + nI x = nI (900 * B + k + x) := by rw [l900, nI_add]
    have e43 : (mz_q3 rs (va_cpy (rs.2.2 43) (rs.2.2 43) (900 * A + i) (900 * B + k) x)).2.2 43 = va_cpy (rs.2.2 43) (rs.2.2 43) (900 * A + i) (900 * B + k) x := rfl
    simp only [fn_X12_copy_b186, if_neg ng, if_neg one0, fn_X12_copy_b210, rr_43, ra_43, rw_43, ix1, ix2, ix_nI (show 900 * A + i + x < 864000 by omega) (show 864000 < 2 ^ 31 by omega), cl_nI (show 900 * A + i + x < 2 ^ 31 by omega), ix_nI (show 900 * B + k + x < 864000 by omega) (show 864000 < 2 ^ 31 by omega), cl_nI (show 900 * B + k + x < 2 ^ 31 by omega), e43, q3_s, I, zo_s, if_true]
theorem rs_cpyB (q sz : Nat) (rs : mz_RS) {A B i k N : Nat} (hA : A < 960) (hB : B < 960) (hi : i + N ≤ 30) (hk : k + N ≤ 30) (hd : 900 * A + i ≤ 900 * B + k ∨ 900 * B + k + N ≤ 900 * A + i) : ∀ (d x f : Nat), x + d = N → d < f → fn_X12_copy_b186 f (mz_RH q sz (mz_q3 rs (va_cpy (rs.2.2 43) (rs.2.2 43) (900 * A + i + d) (900 * B + k + d) x))) (some q) (nI i) (nI k) (nI N) (nI A) (nI B) 0 (nI x) = some (nI N, mz_RH q sz (mz_q3 rs (va_cpy (rs.2.2 43) (rs.2.2 43) (900 * A + i) (900 * B + k) N)), 0, 0) := by
  intro d
  induction d with
  | zero =>
    intro x f hx hf
    obtain ⟨f, rfl⟩ : ∃ g', f = g' + 1 := ⟨f - 1, by omega⟩
    have e : x = N := by omega
    subst e
    simp only [fn_X12_copy_b186, if_pos (Int32.le_refl _), Nat.add_zero, zo_s, zc_t, zl_0, zr_e, z_0, z_1, if_true]
  | succ d ih =>
    intro x f hx hf
    obtain ⟨f, rfl⟩ : ∃ g', f = g' + 1 := ⟨f - 1, by omega⟩
    have I := ih (x + 1) f (by omega) (by omega)
    rw [show nI (x + 1) = nI x + 1 from (nI_add x 1).symm, ← cpy_dn (rs.2.2 43) (show ¬ (900 * B + k + d + 1 ≤ 900 * A + i + d ∧ 900 * A + i + d < 900 * B + k + d + 1 + x) by omega)] at I
    have ng := nI_ge (show x < N by omega) (show N < 2 ^ 31 by omega)
    have ey : nI N - 1 - nI x = nI d := by
      have e : nI N = nI d + nI x + 1 := by rw [nI_add, show (1 : Int32) = nI 1 from rfl, nI_add]; congr 1; omega
      rw [e, Int32.add_sub_cancel, Int32.add_sub_cancel]
    have ix1 : (900 : Int32) * nI A + nI i + nI d = nI (900 * A + i + d) := by rw [l900, nI_add]
    have ix2 : (900 : Int32) * nI B + nI k + nI d = nI (900 * B + k + d) := by rw [l900, nI_add]
    have e43 : (mz_q3 rs (va_cpy (rs.2.2 43) (rs.2.2 43) (900 * A + i + (d + 1)) (900 * B + k + (d + 1)) x)).2.2 43 = va_cpy (rs.2.2 43) (rs.2.2 43) (900 * A + i + d + 1) (900 * B + k + d + 1) x := rfl
    simp only [fn_X12_copy_b186, if_neg ng, fn_X12_copy_b210, ey, rr_43, ra_43, rw_43, ix1, ix2, ix_nI (show 900 * A + i + d < 864000 by omega) (show 864000 < 2 ^ 31 by omega), cl_nI (show 900 * A + i + d < 2 ^ 31 by omega), ix_nI (show 900 * B + k + d < 864000 by omega) (show 864000 < 2 ^ 31 by omega), cl_nI (show 900 * B + k + d < 2 ^ 31 by omega), e43, q3_s, zo_s, if_true]
    exact I
section
variable {VB : Nat} {n m : Nat} {rs : mz_RS} {ad : mz_T → Nat} {lv : Nat → Int32} {mk : Nat → Nat} {mm : Nat → Nat → Nat × Nat} {gi : Nat → Nat → Nat → Int32} {go : Nat → Nat → Option Nat} {gj : Nat → Nat → Int64} {h : mz_H}
theorem aw_cpy {p r k N : Nat} (G : Nat → Int64) (sp : Nat) (hk : k + N ≤ 900) (hG : G = rs.2.2 43) : mz_aw rs (mz_q3 rs (va_cpy G G sp (900 * (16 * p + r) + k) N)) (16 * p + r) := by
  subst hG
  refine ⟨rfl, fun _ _ => ⟨rfl, rfl, rfl, rfl, rfl, rfl⟩, fun _ _ _ _ => ⟨rfl, rfl⟩, fun x i hx hi => ?_⟩
  show va_cpy (rs.2.2 43) (rs.2.2 43) sp (900 * (16 * p + r) + k) N (900 * x + i) = _
  exact if_neg (by omega)
theorem cw_cpy (hR : mz_Rp VB n m rs ad lv mk mm gi go gj h) (w : mz_wo n m rs) {o s p r : Nat} (ho : o < m) (hs : s < mz_sl rs o) (hp : p < m) (hr : r < mz_sl rs p) (h9 : rs.2.1 39 (16 * o + s) = 1) (h2 : rs.2.1 37 (16 * o + s) ≠ 2) (h9' : rs.2.1 39 (16 * p + r) = 1) (h2' : rs.2.1 37 (16 * p + r) ≠ 2) {i k N : Nat} (hi : i + N ≤ mz_rl rs (16 * o + s)) (hk : k + N ≤ mz_rl rs (16 * p + r)) : ∃ h', mz_cpyJ h (some (ad (21, o, s, 0))) (nI i) (some (ad (21, p, r, 0))) (nI k) (nI N) = some h' ∧ mz_Rp VB n m (mz_q3 rs (va_cpy (rs.2.2 43) (rs.2.2 43) (900 * (16 * o + s) + i) (900 * (16 * p + r) + k) N)) ad lv mk mm gi go gj h' ∧ h'.2 = h.2 := by
  have h30 := (rl_le w ho hs).1
  have h30' := (rl_le w hp hr).1
  have h16 := (mz_sl_le w hp).1
  have A := aw_cpy (rs := rs) (p := p) (r := r) (rs.2.2 43) (900 * (16 * o + s) + i) (show k + N ≤ 900 by omega) rfl
  have cA := cc_21 hR ho hs h9 h2
  have cB := cc_21 hR hp hr h9' h2'
  have jA := arJ_of cA
  have jB := arJ_of cB
  refine ⟨_, ?_, hR.up 21 p r 0 (e := .inl (1, mz_rl rs (16 * p + r), .inr (.inl (va_cpy (fun c => if c < mz_rl rs (16 * o + s) then rs.2.2 43 (900 * (16 * o + s) + c) else 0) (fun c => if c < mz_rl rs (16 * p + r) then rs.2.2 43 (900 * (16 * p + r) + c) else 0) i k N)))) (Or.inl ?_) (cb_21 hR hp hr h9' h2') ?_, rfl⟩
  · have c : 0 ≤ nI i ∧ 0 ≤ nI k ∧ 0 ≤ nI N ∧ i + N ≤ mz_rl rs (16 * o + s) ∧ k + N ≤ mz_rl rs (16 * p + r) := ⟨nI_pos' (by omega), nI_pos' (by omega), nI_pos' (by omega), hi, hk⟩
    simp only [mz_cpyJ, jA, jB, if_pos c, mz_sA, cl_nI (show i < 2 ^ 31 by omega), cl_nI (show k < 2 ^ 31 by omega), cl_nI (show N < 2 ^ 31 by omega)]
  · show mz_f21 n m (mz_q3 rs (va_cpy (rs.2.2 43) (rs.2.2 43) (900 * (16 * o + s) + i) (900 * (16 * p + r) + k) N)) ad lv mk mm gi go gj p r 0 = _
    rw [mz_f21, if_pos ⟨hp, hr, rfl, h9', h2'⟩]
    refine congrArg (fun f => some (Sum.inl (1, mz_rl rs (16 * p + r), Sum.inr (Sum.inl f)))) (funext fun c => ?_)
    show (if c < mz_rl rs (16 * p + r) then (if 900 * (16 * p + r) + k ≤ 900 * (16 * p + r) + c ∧ 900 * (16 * p + r) + c < 900 * (16 * p + r) + k + N then rs.2.2 43 (900 * (16 * o + s) + i + (900 * (16 * p + r) + c - (900 * (16 * p + r) + k))) else rs.2.2 43 (900 * (16 * p + r) + c)) else 0) = (if k ≤ c ∧ c < k + N then (if i + (c - k) < mz_rl rs (16 * o + s) then rs.2.2 43 (900 * (16 * o + s) + (i + (c - k))) else 0) else (if c < mz_rl rs (16 * p + r) then rs.2.2 43 (900 * (16 * p + r) + c) else 0))
    by_cases hc : k ≤ c ∧ c < k + N
    · rw [if_pos (show c < mz_rl rs (16 * p + r) by omega), if_pos (by omega), if_pos hc, if_pos (by omega)]
      exact congrArg (rs.2.2 43) (by omega)
    · rw [if_neg hc]
      by_cases hc2 : c < mz_rl rs (16 * p + r)
      · rw [if_pos hc2, if_pos hc2, if_neg (by omega)]
      · rw [if_neg hc2, if_neg hc2]
  · apply mz_hs <;> first | (exact fun _ _ _ _ => Or.inl rfl) | skip
    · intro i' j' k' hne
      refine Or.inl ?_
      by_cases hij : i' = p ∧ j' = r
      · obtain ⟨rfl, rfl⟩ := hij
        have hk : ¬ k' = 0 := fun e => hne ⟨rfl, rfl, rfl, e⟩
        unfold mz_f21
        rw [if_neg (fun z => hk z.2.2.1), if_neg (fun z => hk z.2.2.1)]
      · exact (keepS w (show r < 16 by omega) A i' j' k' hij).2.2.1
    · intro i' j' k' _
      refine Or.inl ?_
      by_cases hij : i' = p ∧ j' = r
      · obtain ⟨rfl, rfl⟩ := hij
        unfold mz_f24
        rw [if_neg (fun z => h2' z.2.2.2.1), if_neg (fun z => h2' z.2.2.2.1)]
      · exact (keepS w (show r < 16 by omega) A i' j' k' hij).2.2.2.2.2
theorem wo_cpy (w : mz_wo n m rs) {o s p r : Nat} (ho : o < m) (hs : s < mz_sl rs o) (hp : p < m) (hr : r < mz_sl rs p) (h9 : rs.2.1 39 (16 * o + s) = 1) (h2 : rs.2.1 37 (16 * o + s) ≠ 2) {i k N : Nat} (hi : i + N ≤ mz_rl rs (16 * o + s)) (hk : k + N ≤ mz_rl rs (16 * p + r)) (el : rs.2.1 36 (16 * o + s) = rs.2.1 36 (16 * p + r)) : mz_wo n m (mz_q3 rs (va_cpy (rs.2.2 43) (rs.2.2 43) (900 * (16 * o + s) + i) (900 * (16 * p + r) + k) N)) := by
  obtain ⟨a1, a2, a3, a4, a5, a6, a7⟩ := id w
  refine ⟨a1, a2, a3, a4, a5, a6, fun o' s' i' b1 b2 b3 b4 b5 => ?_⟩
  have b2' : s' < mz_sl rs o' := b2
  have b5' : i' < mz_rl rs (16 * o' + s') := b5
  have h16' := (mz_sl_le w b1).1
  have h30 := (rl_le w b1 b2').1
  have h16 := (mz_sl_le w hp).1
  have h30' := (rl_le w hp hr).1
  show mz_cv_ok m (rs.2.1 36 (16 * o' + s')) (va_cpy (rs.2.2 43) (rs.2.2 43) (900 * (16 * o + s) + i) (900 * (16 * p + r) + k) N (900 * (16 * o' + s') + i'))
  unfold va_cpy
  by_cases hc : 900 * (16 * p + r) + k ≤ 900 * (16 * o' + s') + i' ∧ 900 * (16 * o' + s') + i' < 900 * (16 * p + r) + k + N
  · rw [if_pos hc]
    have e : 16 * o' + s' = 16 * p + r := by omega
    rw [e, ← el]
    have := a7 o s (i + (i' - k)) ho hs h2 h9 (by rw [e] at hc; omega)
    rw [e] at hc
    rw [show 900 * (16 * o + s) + i + (900 * (16 * p + r) + i' - (900 * (16 * p + r) + k)) = 900 * (16 * o + s) + (i + (i' - k)) by omega]
    exact this
  · rw [if_neg hc]
    exact a7 o' s' i' b1 b2 b3 b4 b5
end
theorem k_copy {VB o q l : Nat} {rs : mz_RS} {h : mz_H} (H : mz_In VB o (l + 1) rs h) (x y i z u k v : Int32) : mz_Ok VB o q l rs (fun h => fn_X11_copy h (some o) x y i z u k v) (fun h => fn_X12_copy h (some q) x y i z u k v) h := by
  refine ok_flt H (fun _ => rfl) (fun _ => rfl) (fun h1 H1 => ?_)
  clear H
  revert H1
  generalize mz_si rs 0 0 = rs
  clear h
  intro H
  generalize h1 = h at H ⊢
  obtain ⟨n, m, ad, lv, mk, mm, gi, go, gj, hR, w⟩ := id H
  obtain ⟨wc, wm, wo, wt, wl, wq, wa, wv⟩ := id w
  obtain rfl : ad (1, 0, 0, 0) = o := wa
  have hn40 := wc.1
  have hm60 := wo.1
  rcases mz_noS wo x y with hx | ⟨a, s, ha, hs, rfl, rfl⟩
  · refine mz_Ok.same H (-1) ?_ (by simp only [mz_RH_is, rs_isSlot_no q h.2 wo hx, zo_s, zc_t, zl_0, zr_e, z_0, z_1, if_true])
    rcases mz_noS wo z u with hy | ⟨b, t, hb, ht, rfl, rfl⟩
    · simp only [ci_1 hR, cs_slotOf_no hR wo hx, cs_slotOf_no hR wo hy, zo_s, zc_t, zl_0, zr_e, z_0, z_1, if_true]
    · simp only [ci_1 hR, cs_slotOf_no hR wo hx, cs_slotOf hR wo hb ht, zo_s, zc_t, zl_0, zr_e, z_0, z_1, if_true]
  rcases mz_noS wo z u with hy | ⟨b, t, hb, ht, rfl, rfl⟩
  · exact mz_Ok.same H (-1) (by simp only [ci_1 hR, cs_slotOf hR wo ha hs, cs_slotOf_no hR wo hy, if_neg smn, zo_s, zc_t, zl_0, zr_e, z_0, z_1, if_true]) (by simp only [mz_RH_is, rs_isSlot q h.2 wo ha hs, if_neg one0, rs_isSlot_no q h.2 wo hy, zo_s, zc_t, zl_0, zr_e, z_0, z_1, if_true])
  have h16 := (mz_sl_le wo ha).1
  have h16' := (mz_sl_le wo hb).1
  obtain ⟨h30, e40⟩ := rl_le wo ha hs
  obtain ⟨h30', e40'⟩ := rl_le wo hb ht
  have d01 : ¬ (0 : Int32) = 1 := by decide
  by_cases e36 : rs.2.1 36 (16 * a + s) = rs.2.1 36 (16 * b + t)
  case neg => exact mz_Ok.same H (-3) (by simp only [ci_1 hR, cs_slotOf hR wo ha hs, cs_slotOf hR wo hb ht, if_neg smn, cg_19_1 hR ha hs, cg_19_1 hR hb ht, if_neg e36, zo_s, zc_t, zl_0, zr_e, z_0, z_1, if_true]) (by simp only [mz_RH_is, rs_isSlot q h.2 wo ha hs, rs_isSlot q h.2 wo hb ht, if_neg one0, l16, rr_36, ra_36, ix_nI (show 16 * a + s < 960 by omega) (show 960 < 2 ^ 31 by omega), cl_nI (show 16 * a + s < 2 ^ 31 by omega), ix_nI (show 16 * b + t < 960 by omega) (show 960 < 2 ^ 31 by omega), cl_nI (show 16 * b + t < 2 ^ 31 by omega), if_neg e36, zo_s, zc_t, zl_0, zr_e, z_0, z_1, if_true])
  by_cases h2 : rs.2.1 37 (16 * a + s) = 2
  · exact mz_Ok.same H (-3) (by simp only [ci_1 hR, cs_slotOf hR wo ha hs, cs_slotOf hR wo hb ht, if_neg smn, cg_19_1 hR ha hs, cg_19_1 hR hb ht, if_pos e36, cg_19_2 hR ha hs, if_pos h2, zo_s, zc_t, zl_0, zr_e, z_0, z_1, if_true]) (by simp only [mz_RH_is, rs_isSlot q h.2 wo ha hs, rs_isSlot q h.2 wo hb ht, if_neg one0, l16, rr_36, ra_36, rr_37, ra_37, ix_nI (show 16 * a + s < 960 by omega) (show 960 < 2 ^ 31 by omega), cl_nI (show 16 * a + s < 2 ^ 31 by omega), ix_nI (show 16 * b + t < 960 by omega) (show 960 < 2 ^ 31 by omega), cl_nI (show 16 * b + t < 2 ^ 31 by omega), if_pos e36, if_pos h2, zo_s, zc_t, zl_0, zr_e, z_0, z_1, if_true])
  by_cases h2' : rs.2.1 37 (16 * b + t) = 2
  · exact mz_Ok.same H (-3) (by simp only [ci_1 hR, cs_slotOf hR wo ha hs, cs_slotOf hR wo hb ht, if_neg smn, cg_19_1 hR ha hs, cg_19_1 hR hb ht, if_pos e36, cg_19_2 hR ha hs, if_neg h2, cg_19_2 hR hb ht, if_pos h2', zo_s, zc_t, zl_0, zr_e, z_0, z_1, if_true]) (by simp only [mz_RH_is, rs_isSlot q h.2 wo ha hs, rs_isSlot q h.2 wo hb ht, if_neg one0, l16, rr_36, ra_36, rr_37, ra_37, ix_nI (show 16 * a + s < 960 by omega) (show 960 < 2 ^ 31 by omega), cl_nI (show 16 * a + s < 2 ^ 31 by omega), ix_nI (show 16 * b + t < 960 by omega) (show 960 < 2 ^ 31 by omega), cl_nI (show 16 * b + t < 2 ^ 31 by omega), if_pos e36, if_neg h2, if_pos h2', zo_s, zc_t, zl_0, zr_e, z_0, z_1, if_true])
  rcases (wo.2.2.2.1 a s ha hs).2.2.2.1 with h9 | h9
  · refine ok_fail H 1 ?_ (fun sz => ?_)
    · simp only [ci_1 hR, cs_slotOf hR wo ha hs, cs_slotOf hR wo hb ht, if_neg smn, cg_19_1 hR ha hs, cg_19_1 hR hb ht, if_pos e36, cg_19_2 hR ha hs, if_neg h2, cg_19_2 hR hb ht, if_neg h2', cg_19_4 hR ha hs, h9, d01, false_and, if_false, fn_X11_copy_b85, zo_s, zc_t, zl_0, if_true]
    · simp only [mz_RH_is, rs_isSlot q sz wo ha hs, rs_isSlot q sz wo hb ht, if_neg one0, l16, rr_36, ra_36, rr_37, ra_37, rr_39, ra_39, ix_nI (show 16 * a + s < 960 by omega) (show 960 < 2 ^ 31 by omega), cl_nI (show 16 * a + s < 2 ^ 31 by omega), ix_nI (show 16 * b + t < 960 by omega) (show 960 < 2 ^ 31 by omega), cl_nI (show 16 * b + t < 2 ^ 31 by omega), if_pos e36, if_neg h2, if_neg h2', h9, fn_X12_copy_b107, zo_s, zc_t, zl_0, if_true]
  have rA : (if rs.2.1 39 (16 * a + s) = 1 ∧ rs.2.1 37 (16 * a + s) ≠ 2 then some (ad (20, a, s, 0)) else none) = some (ad (20, a, s, 0)) := if_pos ⟨h9, h2⟩
  have m9 : ¬ rs.2.1 39 (16 * a + s) = 0 := by rw [h9]; decide
  rcases (wo.2.2.2.1 b t hb ht).2.2.2.1 with h9' | h9'
  · refine ok_fail H 1 ?_ (fun sz => ?_)
    · simp only [ci_1 hR, cs_slotOf hR wo ha hs, cs_slotOf hR wo hb ht, if_neg smn, cg_19_1 hR ha hs, cg_19_1 hR hb ht, if_pos e36, cg_19_2 hR ha hs, if_neg h2, cg_19_2 hR hb ht, if_neg h2', cg_19_4 hR ha hs, rA, cg_19_4 hR hb ht, h9', d01, false_and, if_false, fn_X11_copy_b85, zo_s, zc_t, zl_0, if_true]
    · simp only [mz_RH_is, rs_isSlot q sz wo ha hs, rs_isSlot q sz wo hb ht, if_neg one0, l16, rr_36, ra_36, rr_37, ra_37, rr_39, ra_39, ix_nI (show 16 * a + s < 960 by omega) (show 960 < 2 ^ 31 by omega), cl_nI (show 16 * a + s < 2 ^ 31 by omega), ix_nI (show 16 * b + t < 960 by omega) (show 960 < 2 ^ 31 by omega), cl_nI (show 16 * b + t < 2 ^ 31 by omega), if_pos e36, if_neg h2, if_neg h2', if_neg m9, h9', fn_X12_copy_b107, zo_s, zc_t, zl_0, if_true]
  have rB : (if rs.2.1 39 (16 * b + t) = 1 ∧ rs.2.1 37 (16 * b + t) ≠ 2 then some (ad (20, b, t, 0)) else none) = some (ad (20, b, t, 0)) := if_pos ⟨h9', h2'⟩
  have m9' : ¬ rs.2.1 39 (16 * b + t) = 0 := by rw [h9']; decide
  obtain ⟨r1, E1, p1⟩ := cs_hasRange (cc_20 hR ha hs h9 h2) (cc_21 hR ha hs h9 h2) h30 i v
  obtain ⟨r2, E2, p2⟩ := cs_hasRange (cc_20 hR hb ht h9' h2') (cc_21 hR hb ht h9' h2') h30' k v
  by_cases G : mz_rg (mz_rl rs (16 * a + s)) i v ∧ mz_rg (mz_rl rs (16 * b + t)) k v
  case neg =>
    refine ok_fail H 3 ?_ (fun sz => ?_)
    · rcases p1.one with ⟨n1, g1, -⟩ | ⟨n1, g1⟩
      · rcases p2.one with ⟨n2, g2, -⟩ | ⟨n2, g2⟩
        · exact absurd ⟨g1, g2⟩ G
        · simp only [ci_1 hR, cs_slotOf hR wo ha hs, cs_slotOf hR wo hb ht, if_neg smn, cg_19_1 hR ha hs, cg_19_1 hR hb ht, if_pos e36, cg_19_2 hR ha hs, if_neg h2, cg_19_2 hR hb ht, if_neg h2', cg_19_4 hR ha hs, rA, cg_19_4 hR hb ht, rB, ci_20 hR ha hs h9 h2, ci_20 hR hb ht h9' h2', E1, E2, if_neg n1, if_pos n2, fn_X11_copy_b120, zo_s, zc_t, zl_0]
      · simp only [ci_1 hR, cs_slotOf hR wo ha hs, cs_slotOf hR wo hb ht, if_neg smn, cg_19_1 hR ha hs, cg_19_1 hR hb ht, if_pos e36, cg_19_2 hR ha hs, if_neg h2, cg_19_2 hR hb ht, if_neg h2', cg_19_4 hR ha hs, rA, cg_19_4 hR hb ht, rB, ci_20 hR ha hs h9 h2, ci_20 hR hb ht h9' h2', E1, E2, if_pos n1, fn_X11_copy_b120, zo_s, zc_t, zl_0]
    · by_cases c1 : i < 0
      · simp only [mz_RH_is, rs_isSlot q sz wo ha hs, rs_isSlot q sz wo hb ht, if_neg one0, l16, rr_36, ra_36, rr_37, ra_37, rr_39, ra_39, ix_nI (show 16 * a + s < 960 by omega) (show 960 < 2 ^ 31 by omega), cl_nI (show 16 * a + s < 2 ^ 31 by omega), ix_nI (show 16 * b + t < 960 by omega) (show 960 < 2 ^ 31 by omega), cl_nI (show 16 * b + t < 2 ^ 31 by omega), if_pos e36, if_neg h2, if_neg h2', if_neg m9, if_neg m9', if_pos c1, fn_X12_copy_b164, zo_s, zc_t, zl_0, if_true]
      by_cases c2 : k < 0
      · simp only [mz_RH_is, rs_isSlot q sz wo ha hs, rs_isSlot q sz wo hb ht, if_neg one0, l16, rr_36, ra_36, rr_37, ra_37, rr_39, ra_39, ix_nI (show 16 * a + s < 960 by omega) (show 960 < 2 ^ 31 by omega), cl_nI (show 16 * a + s < 2 ^ 31 by omega), ix_nI (show 16 * b + t < 960 by omega) (show 960 < 2 ^ 31 by omega), cl_nI (show 16 * b + t < 2 ^ 31 by omega), if_pos e36, if_neg h2, if_neg h2', if_neg m9, if_neg m9', if_neg c1, if_pos c2, fn_X12_copy_b164, zo_s, zc_t, zl_0, if_true]
      by_cases c3 : v < 0
      · simp only [mz_RH_is, rs_isSlot q sz wo ha hs, rs_isSlot q sz wo hb ht, if_neg one0, l16, rr_36, ra_36, rr_37, ra_37, rr_39, ra_39, ix_nI (show 16 * a + s < 960 by omega) (show 960 < 2 ^ 31 by omega), cl_nI (show 16 * a + s < 2 ^ 31 by omega), ix_nI (show 16 * b + t < 960 by omega) (show 960 < 2 ^ 31 by omega), cl_nI (show 16 * b + t < 2 ^ 31 by omega), if_pos e36, if_neg h2, if_neg h2', if_neg m9, if_neg m9', if_neg c1, if_neg c2, if_pos c3, fn_X12_copy_b164, zo_s, zc_t, zl_0, if_true]
      by_cases c4 : mz_rg (mz_rl rs (16 * a + s)) i v
      · have c4' : ¬ 0 < lg_cmp (i.toInt64 + v.toInt64) (nI (mz_rl rs (16 * a + s))).toInt64 := fun q => (rg_iff h30 c1 c3).mp q c4
        have c5' : ¬ lg_cmp (k.toInt64 + v.toInt64) (nI (mz_rl rs (16 * b + t))).toInt64 ≤ 0 := Int32.not_le.mpr ((rg_iff h30' c2 c3).mpr fun q => G ⟨c4, q⟩)
        simp only [mz_RH_is, rs_isSlot q sz wo ha hs, rs_isSlot q sz wo hb ht, if_neg one0, l16, rr_36, ra_36, rr_37, ra_37, rr_39, ra_39, rr_40, ra_40, ix_nI (show 16 * a + s < 960 by omega) (show 960 < 2 ^ 31 by omega), cl_nI (show 16 * a + s < 2 ^ 31 by omega), ix_nI (show 16 * b + t < 960 by omega) (show 960 < 2 ^ 31 by omega), cl_nI (show 16 * b + t < 2 ^ 31 by omega), if_pos e36, if_neg h2, if_neg h2', if_neg m9, if_neg m9', if_neg c1, if_neg c2, if_neg c3, e40, e40', if_neg c4', if_neg c5', fn_X12_copy_b164, zo_s, zc_t, zl_0, if_true]
      · have c4' : 0 < lg_cmp (i.toInt64 + v.toInt64) (nI (mz_rl rs (16 * a + s))).toInt64 := (rg_iff h30 c1 c3).mpr c4
        simp only [mz_RH_is, rs_isSlot q sz wo ha hs, rs_isSlot q sz wo hb ht, if_neg one0, l16, rr_36, ra_36, rr_37, ra_37, rr_39, ra_39, rr_40, ra_40, ix_nI (show 16 * a + s < 960 by omega) (show 960 < 2 ^ 31 by omega), cl_nI (show 16 * a + s < 2 ^ 31 by omega), ix_nI (show 16 * b + t < 960 by omega) (show 960 < 2 ^ 31 by omega), cl_nI (show 16 * b + t < 2 ^ 31 by omega), if_pos e36, if_neg h2, if_neg h2', if_neg m9, if_neg m9', if_neg c1, if_neg c2, if_neg c3, e40, if_pos c4', fn_X12_copy_b164, zo_s, zc_t, zl_0, if_true]
  have n1 : ¬ r1 = 0 := by
    rcases p1.one with ⟨n1, -, -⟩ | ⟨-, g1⟩
    · exact n1
    · exact absurd G.1 g1
  have n2 : ¬ r2 = 0 := by
    rcases p2.one with ⟨n1, -, -⟩ | ⟨-, g1⟩
    · exact n1
    · exact absurd G.2 g1
  obtain ⟨i0, v0, rfl, rfl, hi⟩ := id G.1
  obtain ⟨k0, v1, rfl, ev, hk⟩ := id G.2
  obtain rfl : v0 = v1 := (nI_eq (by omega) (by omega)).mp ev
  have c1 := nI_pos (show i0 < 2 ^ 31 by omega)
  have c2 := nI_pos (show k0 < 2 ^ 31 by omega)
  have c3 := nI_pos (show v0 < 2 ^ 31 by omega)
  have c4' : ¬ 0 < lg_cmp ((nI i0).toInt64 + (nI v0).toInt64) (nI (mz_rl rs (16 * a + s))).toInt64 := fun q => (rg_iff h30 c1 c3).mp q G.1
  have c5' : lg_cmp ((nI k0).toInt64 + (nI v0).toInt64) (nI (mz_rl rs (16 * b + t))).toInt64 ≤ 0 := Int32.not_lt.mp fun q => (rg_iff h30' c2 c3).mp q G.2
  obtain ⟨h1, k1, R1, s1⟩ := cw_cpy hR wo ha hs hb ht h9 h2 h9' h2' hi hk
  have wo' := wo_cpy wo ha hs hb ht h9 h2 hi hk e36
  refine ⟨nI v0, h1, 0, 0, _, ?_, ?_, ⟨n, m, ad, lv, mk, mm, gi, go, gj, R1, wc, wm, wo', wt, wl, wq, rfl, by omega⟩, Nat.le_of_eq s1.symm, Nat.le_refl _, by omega, by omega⟩
  · simp only [ci_1 hR, cs_slotOf hR wo ha hs, cs_slotOf hR wo hb ht, if_neg smn, cg_19_1 hR ha hs, cg_19_1 hR hb ht, if_pos e36, cg_19_2 hR ha hs, if_neg h2, cg_19_2 hR hb ht, if_neg h2', cg_19_4 hR ha hs, rA, cg_19_4 hR hb ht, rB, ci_20 hR ha hs h9 h2, ci_20 hR hb ht h9' h2', E1, E2, if_neg n1, if_neg n2, cg_20_0 hR ha hs h9 h2, cg_20_0 hR hb ht h9' h2', k1, zo_s, zc_t, zl_0, zr_e, z_0, z_1, if_true]
  · by_cases c6 : nI i0 < nI k0
    · have hik : i0 < k0 := by
        rcases Nat.lt_or_ge i0 k0 with q | q
        · exact q
        · exact absurd c6 (nI_nlt q (by omega))
      have L := rs_cpyB q h1.2 rs (A := 16 * a + s) (B := 16 * b + t) (i := i0) (k := k0) (N := v0) (by omega) (by omega) (by omega) (by omega) (by omega) v0 0 1001 (by omega) (by omega)
      rw [cpy_0, ← q3_id rs] at L
      have L' : fn_X12_copy_b186 1001 (mz_RH q h1.2 rs) (some q) (nI i0) (nI k0) (nI v0) (nI (16 * a + s)) (nI (16 * b + t)) 0 0 = _ := L
      simp only [mz_RH_is, rs_isSlot q h1.2 wo ha hs, rs_isSlot q h1.2 wo hb ht, if_neg one0, l16, rr_36, ra_36, rr_37, ra_37, rr_39, ra_39, rr_40, ra_40, ix_nI (show 16 * a + s < 960 by omega) (show 960 < 2 ^ 31 by omega), cl_nI (show 16 * a + s < 2 ^ 31 by omega), ix_nI (show 16 * b + t < 960 by omega) (show 960 < 2 ^ 31 by omega), cl_nI (show 16 * b + t < 2 ^ 31 by omega), if_pos e36, if_neg h2, if_neg h2', if_neg m9, if_neg m9', if_neg c1, if_neg c2, if_neg c3, e40, e40', if_neg c4', if_pos c5', if_pos c6, fn_X12_copy_b181, L', zo_s, zc_t, zl_0, if_true]
    · have hik : k0 ≤ i0 := by
        rcases Nat.lt_or_ge i0 k0 with q | q
        · exact absurd (nI_lt q (by omega)) c6
        · exact q
      have L := rs_cpyF q h1.2 rs (A := 16 * a + s) (B := 16 * b + t) (i := i0) (k := k0) (N := v0) (by omega) (by omega) (by omega) (by omega) (by omega) v0 0 1001 (by omega) (by omega)
      rw [cpy_0, ← q3_id rs] at L
      have L' : fn_X12_copy_b186 1001 (mz_RH q h1.2 rs) (some q) (nI i0) (nI k0) (nI v0) (nI (16 * a + s)) (nI (16 * b + t)) 1 0 = _ := L
      simp only [mz_RH_is, rs_isSlot q h1.2 wo ha hs, rs_isSlot q h1.2 wo hb ht, if_neg one0, l16, rr_36, ra_36, rr_37, ra_37, rr_39, ra_39, rr_40, ra_40, ix_nI (show 16 * a + s < 960 by omega) (show 960 < 2 ^ 31 by omega), cl_nI (show 16 * a + s < 2 ^ 31 by omega), ix_nI (show 16 * b + t < 960 by omega) (show 960 < 2 ^ 31 by omega), cl_nI (show 16 * b + t < 2 ^ 31 by omega), if_pos e36, if_neg h2, if_neg h2', if_neg m9, if_neg m9', if_neg c1, if_neg c2, if_neg c3, e40, e40', if_neg c4', if_pos c5', if_neg c6, fn_X12_copy_b181, L', zo_s, zc_t, zl_0, if_true]

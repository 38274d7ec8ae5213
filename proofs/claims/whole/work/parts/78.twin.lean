/-! twin -/
def mz_xX (X : Nat → Nat → Int32) (k i : Nat) (v : Int32) : Nat → Nat → Int32 := fun j => if j = k then upd (X k) i v else X j
theorem xX_at (X : Nat → Nat → Int32) (k i : Nat) (v : Int32) : mz_xX X k i v k = upd (X k) i v := if_pos rfl
theorem xX_ne (X : Nat → Nat → Int32) {k j : Nat} (i : Nat) (v : Int32) (h : j ≠ k) : mz_xX X k i v j = X j := if_neg h
theorem tw_id (rs : mz_RS) : rs = mz_tw rs (rs.1 32) rs.2.1 (rs.2.2 43) := by
  refine Prod.ext (funext fun k => ?_) (Prod.ext (funext fun k => ?_) (funext fun k => ?_))
  · show rs.1 k = if k = 32 then rs.1 32 else rs.1 k
    split
    · rename_i h; rw [h]
    · rfl
  · show rs.2.1 k = if Nat.ble 33 k && Nat.ble k 42 then rs.2.1 k else rs.2.1 k
    rw [ite_self]
  · show rs.2.2 k = if k = 43 then rs.2.2 43 else rs.2.2 k
    split
    · rename_i h; rw [h]
    · rfl
section
variable {rs : mz_RS} {v : Int32} {X : Nat → Nat → Int32} {J : Nat → Int64}
theorem tw_sa {k : Nat} (h1 : 33 ≤ k) (h2 : k ≤ 42) (i : Nat) (x : Int32) : mz_sa (mz_tw rs v X J) k i x = mz_tw rs v (mz_xX X k i x) J := by
  have b : ∀ k, 33 ≤ k → k ≤ 42 → (Nat.ble 33 k && Nat.ble k 42) = true := fun k h1 h2 => by rw [Nat.ble_eq_true_of_le h1, Nat.ble_eq_true_of_le h2]; rfl
  refine Prod.ext rfl (Prod.ext (funext fun j => ?_) rfl)
  show (if j = k then upd (if Nat.ble 33 k && Nat.ble k 42 then X k else rs.2.1 k) i x else if Nat.ble 33 j && Nat.ble j 42 then X j else rs.2.1 j) = if Nat.ble 33 j && Nat.ble j 42 then mz_xX X k i x j else rs.2.1 j
  by_cases h : j = k
  · subst h
    rw [if_pos rfl, b j h1 h2, if_pos rfl, if_pos rfl, xX_at]
  · rw [if_neg h, xX_ne _ _ _ h]
theorem tw_33 (i : Nat) (x : Int32) : mz_sa (mz_tw rs v X J) 33 i x = mz_tw rs v (mz_xX X 33 i x) J := tw_sa (by omega) (by omega) i x
theorem tw_34 (i : Nat) (x : Int32) : mz_sa (mz_tw rs v X J) 34 i x = mz_tw rs v (mz_xX X 34 i x) J := tw_sa (by omega) (by omega) i x
theorem tw_35 (i : Nat) (x : Int32) : mz_sa (mz_tw rs v X J) 35 i x = mz_tw rs v (mz_xX X 35 i x) J := tw_sa (by omega) (by omega) i x
theorem tw_36 (i : Nat) (x : Int32) : mz_sa (mz_tw rs v X J) 36 i x = mz_tw rs v (mz_xX X 36 i x) J := tw_sa (by omega) (by omega) i x
theorem tw_37 (i : Nat) (x : Int32) : mz_sa (mz_tw rs v X J) 37 i x = mz_tw rs v (mz_xX X 37 i x) J := tw_sa (by omega) (by omega) i x
theorem tw_38 (i : Nat) (x : Int32) : mz_sa (mz_tw rs v X J) 38 i x = mz_tw rs v (mz_xX X 38 i x) J := tw_sa (by omega) (by omega) i x
theorem tw_39 (i : Nat) (x : Int32) : mz_sa (mz_tw rs v X J) 39 i x = mz_tw rs v (mz_xX X 39 i x) J := tw_sa (by omega) (by omega) i x
theorem tw_40 (i : Nat) (x : Int32) : mz_sa (mz_tw rs v X J) 40 i x = mz_tw rs v (mz_xX X 40 i x) J := tw_sa (by omega) (by omega) i x
theorem tw_41 (i : Nat) (x : Int32) : mz_sa (mz_tw rs v X J) 41 i x = mz_tw rs v (mz_xX X 41 i x) J := tw_sa (by omega) (by omega) i x
theorem tw_42 (i : Nat) (x : Int32) : mz_sa (mz_tw rs v X J) 42 i x = mz_tw rs v (mz_xX X 42 i x) J := tw_sa (by omega) (by omega) i x
theorem tw_43 (i : Nat) (x : Int64) : mz_sj (mz_tw rs v X J) 43 i x = mz_tw rs v X (vp_updL J i x) := by
  refine Prod.ext rfl (Prod.ext rfl (funext fun k => ?_))
  show (if k = 43 then vp_updL J i x else if k = 43 then J else rs.2.2 k) = if k = 43 then vp_updL J i x else rs.2.2 k
  by_cases h : k = 43
  · rw [if_pos h, if_pos h]
  · rw [if_neg h, if_neg h, if_neg h]
theorem tw_32 (x : Int32) : mz_si (mz_tw rs v X J) 32 x = mz_tw rs x X J := by
  refine Prod.ext (funext fun k => ?_) rfl
  show (if k = 32 then x else if k = 32 then v else rs.1 k) = if k = 32 then x else rs.1 k
  by_cases h : k = 32
  · rw [if_pos h, if_pos h]
  · rw [if_neg h, if_neg h, if_neg h]
end
theorem rs_twJ (q sz : Nat) (rs : mz_RS) (v : Int32) (X : Nat → Nat → Int32) {A B : Nat} (hA : A < 960) (hB : B < 960) (hAB : A ≠ B) (x1 x2 x3 : Int32) (rc : mz_H → Option Nat → Int32 → Int32 → Int32 → mz_Res Int32) : ∀ (d i f : Nat) (J : Nat → Int64), i + d = 900 → d < f → ∃ J' : Nat → Int64, fn_X12_twin_b234 rc f (mz_RH q sz (mz_tw rs v X J)) (some q) x1 x2 x3 (nI A) (nI B) (nI i) = rc (mz_RH q sz (mz_tw rs v X J')) (some q) x1 x2 (x3 + 1) ∧ (∀ k, i ≤ k → k < 900 → J' (900 * B + k) = J (900 * A + k)) ∧ ∀ p, ¬ (900 * B + i ≤ p ∧ p < 900 * B + 900) → J' p = J p := by
  intro d
  induction d with
  | zero =>
    intro i f J hi hf
    obtain ⟨f, rfl⟩ : ∃ g', f = g' + 1 := ⟨f - 1, by omega⟩
    have e : i = 900 := by omega
    subst e
    exact ⟨J, by simp only [fn_X12_twin_b234, if_pos (show (900 : Int32) ≤ nI 900 from Int32.le_refl _), zo_s], fun k h1 h2 => by omega, fun _ _ => rfl⟩
  | succ d ih =>
    intro i f J hi hf
    obtain ⟨f, rfl⟩ : ∃ g', f = g' + 1 := ⟨f - 1, by omega⟩
    have ng : ¬ (900 : Int32) ≤ nI i := nI_ge (b := 900) (by omega) (by omega)
    obtain ⟨J', k1, y1, y2⟩ := ih (i + 1) f (vp_updL J (900 * B + i) (J (900 * A + i))) (by omega) (by omega)
    rw [show nI (i + 1) = nI i + 1 from (nI_add i 1).symm] at k1
    have e43 : (mz_tw rs v X J).2.2 43 (900 * A + i) = J (900 * A + i) := rfl
    refine ⟨J', ?_, fun k h1 h2 => ?_, fun p hp => ?_⟩
    · simp only [fn_X12_twin_b234, if_neg ng, rr_43, ra_43, rw_43, l900, ix_nI (show 900 * A + i < 864000 by omega) (show 864000 < 2 ^ 31 by omega), cl_nI (show 900 * A + i < 2 ^ 31 by omega), ix_nI (show 900 * B + i < 864000 by omega) (show 864000 < 2 ^ 31 by omega), cl_nI (show 900 * B + i < 2 ^ 31 by omega), e43, tw_43, k1, zo_s, if_true]
    · rcases (show k = i ∨ i + 1 ≤ k by omega) with rfl | z
      · rw [y2 _ (by omega), pk_uLs]
      · rw [y1 k z h2, pk_uLn (by omega)]
    · rw [y2 p (by omega), pk_uLn (by omega)]
theorem rs_twI (q sz : Nat) (rs : mz_RS) (v : Int32) (J : Nat → Int64) {A B : Nat} (hA : A < 960) (hB : B < 960) (hAB : A ≠ B) (x1 x2 x3 : Int32) (rc : mz_H → Option Nat → Int32 → Int32 → Int32 → mz_Res Int32) : ∀ (d i f : Nat) (X : Nat → Nat → Int32), i + d = 30 → d < f → ∃ X' : Nat → Nat → Int32, fn_X12_twin_b166 rc f (mz_RH q sz (mz_tw rs v X J)) (some q) x1 x2 x3 (nI A) (nI B) (nI i) = fn_X12_twin_b234 rc 1001 (mz_RH q sz (mz_tw rs v X' J)) (some q) x1 x2 x3 (nI A) (nI B) 0 ∧ (∀ k, i ≤ k → k < 30 → X' 41 (30 * B + k) = X 41 (30 * A + k) &&& 1 ∧ X' 42 (30 * B + k) = X 42 (30 * A + k)) ∧ (∀ p, ¬ (30 * B + i ≤ p ∧ p < 30 * B + 30) → X' 41 p = X 41 p ∧ X' 42 p = X 42 p) ∧ ∀ k, k ≠ 41 → k ≠ 42 → X' k = X k := by
  intro d
  induction d with
  | zero =>
    intro i f X hi hf
    obtain ⟨f, rfl⟩ : ∃ g', f = g' + 1 := ⟨f - 1, by omega⟩
    have e : i = 30 := by omega
    subst e
    exact ⟨X, by simp only [fn_X12_twin_b166, if_pos (show (30 : Int32) ≤ nI 30 from Int32.le_refl _)], fun k h1 h2 => by omega, fun _ _ => ⟨rfl, rfl⟩, fun _ _ _ => rfl⟩
  | succ d ih =>
    intro i f X hi hf
    obtain ⟨f, rfl⟩ : ∃ g', f = g' + 1 := ⟨f - 1, by omega⟩
    have ng : ¬ (30 : Int32) ≤ nI i := nI_ge (b := 30) (by omega) (by omega)
    obtain ⟨X', k1, y1, y2, y3⟩ := ih (i + 1) f (mz_xX (mz_xX X 41 (30 * B + i) (X 41 (30 * A + i) &&& 1)) 42 (30 * B + i) (X 42 (30 * A + i))) (by omega) (by omega)
    rw [show nI (i + 1) = nI i + 1 from (nI_add i 1).symm] at k1
    have e41 : (mz_tw rs v X J).2.1 41 (30 * A + i) = X 41 (30 * A + i) := rfl
    have e42 : (mz_tw rs v (mz_xX X 41 (30 * B + i) (X 41 (30 * A + i) &&& 1)) J).2.1 42 (30 * A + i) = X 42 (30 * A + i) := rfl
    refine ⟨X', ?_, fun k h1 h2 => ?_, fun p hp => ?_, fun k h1 h2 => ?_⟩
    · simp only [fn_X12_twin_b166, if_neg ng, rr_41, ra_41, rr_42, ra_42, rw_41, rw_42, l30, ix_nI (show 30 * A + i < 28800 by omega) (show 28800 < 2 ^ 31 by omega), cl_nI (show 30 * A + i < 2 ^ 31 by omega), ix_nI (show 30 * B + i < 28800 by omega) (show 28800 < 2 ^ 31 by omega), cl_nI (show 30 * B + i < 2 ^ 31 by omega), e41, e42, tw_41, tw_42, k1, zo_s, if_true]
    · rcases (show k = i ∨ i + 1 ≤ k by omega) with rfl | z
      · obtain ⟨u1, u2⟩ := y2 (30 * B + k) (by omega)
        rw [u1, u2, xX_ne _ _ _ (by omega), xX_at, xX_at, pk_us, pk_us]
        exact ⟨rfl, rfl⟩
      · obtain ⟨u1, u2⟩ := y1 k z h2
        rw [u1, u2, xX_ne _ _ _ (by omega), xX_at, xX_at, pk_un (by omega), pk_un (by omega), xX_ne _ _ _ (by omega)]
        exact ⟨rfl, rfl⟩
    · obtain ⟨u1, u2⟩ := y2 p (by omega)
      rw [u1, u2, xX_ne _ _ _ (by omega), xX_at, xX_at, pk_un (by omega), pk_un (by omega), xX_ne _ _ _ (by omega)]
      exact ⟨rfl, rfl⟩
    · rw [y3 k h1 h2, xX_ne _ _ _ h2, xX_ne _ _ _ h1]
/-- what is copied: slot B from slot A of rs -/
def tw_C (rs : mz_RS) (A B : Nat) (X : Nat → Nat → Int32) (J : Nat → Int64) : Prop := X 35 B = rs.2.1 35 A ∧ X 36 B = rs.2.1 36 A ∧ X 37 B = rs.2.1 37 A ∧ X 38 B = rs.2.1 38 A ∧ X 39 B = (rs.2.1 39 A &&& 1) ∧ X 40 B = rs.2.1 40 A ∧ (∀ k, k < 30 → X 41 (30 * B + k) = (rs.2.1 41 (30 * A + k) &&& 1) ∧ X 42 (30 * B + k) = rs.2.1 42 (30 * A + k)) ∧ ∀ k, k < 900 → J (900 * B + k) = rs.2.2 43 (900 * A + k)
/-- what stays: slots below N, with all that is theirs -/
def tw_B (rs : mz_RS) (N : Nat) (X : Nat → Nat → Int32) (J : Nat → Int64) : Prop := (∀ p, p < N → X 35 p = rs.2.1 35 p ∧ X 36 p = rs.2.1 36 p ∧ X 37 p = rs.2.1 37 p ∧ X 38 p = rs.2.1 38 p ∧ X 39 p = rs.2.1 39 p ∧ X 40 p = rs.2.1 40 p) ∧ (∀ p, p < 30 * N → X 41 p = rs.2.1 41 p ∧ X 42 p = rs.2.1 42 p) ∧ ∀ p, p < 900 * N → J p = rs.2.2 43 p
theorem rs_twS (q sz : Nat) {rs : mz_RS} {o m S : Nat} (hom : o < m) (hm : m < 60) (hS : S ≤ 16) (v : Int32) (hv : v = nI m) : ∀ (d s f : Nat) (X : Nat → Nat → Int32) (J : Nat → Int64), s + d = S → d < f → X 34 o = nI S → (∀ t, t < s → tw_C rs (16 * o + t) (16 * m + t) X J) → tw_B rs (16 * m) X J → ∃ (X' : Nat → Nat → Int32) (J' : Nat → Int64), fn_X12_twin_b53 f (mz_RH q sz (mz_tw rs v X J)) (some q) (nI o) (nI m) (nI s) = some (nI m, mz_RH q sz (mz_tw rs (nI (m + 1)) X' J'), 0, 0) ∧ (∀ t, t < S → tw_C rs (16 * o + t) (16 * m + t) X' J') ∧ tw_B rs (16 * m) X' J' ∧ X' 33 = X 33 ∧ X' 34 = X 34 := by
  intro d
  induction d with
  | zero =>
    intro s f X J hs hf e34 hC hB
    obtain ⟨f, rfl⟩ : ∃ g', f = g' + 1 := ⟨f - 1, by omega⟩
    have e : s = S := by omega
    subst e
    have x34 : (mz_tw rs v X J).2.1 34 o = nI s := e34
    have x32 : (mz_tw rs v X J).1 32 = nI m := hv
    have em : nI m + 1 = nI (m + 1) := nI_add m 1
    exact ⟨X, J, by simp only [fn_X12_twin_b53, rr_34, ra_34, ix_nI (show o < 60 by omega) (show 60 < 2 ^ 31 by omega), cl_nI (show o < 2 ^ 31 by omega), x34, if_pos (Int32.le_refl _), rg_32, x32, em, rp_32, tw_32, zo_s, zc_t, zl_0, zr_e, z_0, z_1, if_true], hC, hB, rfl, rfl⟩
  | succ d ih =>
    intro s f X J hs hf e34 hC hB
    obtain ⟨f, rfl⟩ : ∃ g', f = g' + 1 := ⟨f - 1, by omega⟩
    have x34 : (mz_tw rs v X J).2.1 34 o = nI S := e34
    have ng := nI_ge (show s < S by omega) (show S < 2 ^ 31 by omega)
    obtain ⟨bA, bI, bJ⟩ := hB
    obtain ⟨a35, a36, a37, a38, a39, a40⟩ := bA (16 * o + s) (by omega)
    -- the six fields
    obtain ⟨X2, k2, y1, y2, y3⟩ := rs_twI q sz rs v J (A := 16 * o + s) (B := 16 * m + s) (by omega) (by omega) (by omega) (nI o) (nI m) (nI s) (fn_X12_twin_b53 f) 30 0 1001 (mz_xX (mz_xX (mz_xX (mz_xX (mz_xX (mz_xX X 35 (16 * m + s) (X 35 (16 * o + s))) 36 (16 * m + s) (X 36 (16 * o + s))) 37 (16 * m + s) (X 37 (16 * o + s))) 38 (16 * m + s) (X 38 (16 * o + s))) 39 (16 * m + s) (X 39 (16 * o + s) &&& 1)) 40 (16 * m + s) (X 40 (16 * o + s))) (by omega) (by omega)
    have k2' : fn_X12_twin_b166 (fn_X12_twin_b53 f) 1001 (mz_RH q sz (mz_tw rs v (mz_xX (mz_xX (mz_xX (mz_xX (mz_xX (mz_xX X 35 (16 * m + s) (X 35 (16 * o + s))) 36 (16 * m + s) (X 36 (16 * o + s))) 37 (16 * m + s) (X 37 (16 * o + s))) 38 (16 * m + s) (X 38 (16 * o + s))) 39 (16 * m + s) (X 39 (16 * o + s) &&& 1)) 40 (16 * m + s) (X 40 (16 * o + s))) J)) (some q) (nI o) (nI m) (nI s) (nI (16 * o + s)) (nI (16 * m + s)) 0 = _ := k2
    obtain ⟨J2, k3, w1, w2⟩ := rs_twJ q sz rs v X2 (A := 16 * o + s) (B := 16 * m + s) (by omega) (by omega) (by omega) (nI o) (nI m) (nI s) (fn_X12_twin_b53 f) 900 0 1001 J (by omega) (by omega)
    have k3' : fn_X12_twin_b234 (fn_X12_twin_b53 f) 1001 (mz_RH q sz (mz_tw rs v X2 J)) (some q) (nI o) (nI m) (nI s) (nI (16 * o + s)) (nI (16 * m + s)) 0 = _ := k3
    -- X2, field by field
    have z35 : X2 35 = upd (X 35) (16 * m + s) (X 35 (16 * o + s)) := by rw [y3 35 (by omega) (by omega)]; rfl
    have z36 : X2 36 = upd (X 36) (16 * m + s) (X 36 (16 * o + s)) := by rw [y3 36 (by omega) (by omega)]; rfl
    have z37 : X2 37 = upd (X 37) (16 * m + s) (X 37 (16 * o + s)) := by rw [y3 37 (by omega) (by omega)]; rfl
    have z38 : X2 38 = upd (X 38) (16 * m + s) (X 38 (16 * o + s)) := by rw [y3 38 (by omega) (by omega)]; rfl
    have z39 : X2 39 = upd (X 39) (16 * m + s) (X 39 (16 * o + s) &&& 1) := by rw [y3 39 (by omega) (by omega)]; rfl
    have z40 : X2 40 = upd (X 40) (16 * m + s) (X 40 (16 * o + s)) := by rw [y3 40 (by omega) (by omega)]; rfl
    have z33 : X2 33 = X 33 := by rw [y3 33 (by omega) (by omega)]; rfl
    have z34 : X2 34 = X 34 := by rw [y3 34 (by omega) (by omega)]; rfl
    have u41 : ∀ p, ¬ (30 * (16 * m + s) + 0 ≤ p ∧ p < 30 * (16 * m + s) + 30) → X2 41 p = X 41 p ∧ X2 42 p = X 42 p := fun p hp => y2 p hp
    have v41 : ∀ k, k < 30 → X2 41 (30 * (16 * m + s) + k) = X 41 (30 * (16 * o + s) + k) &&& 1 ∧ X2 42 (30 * (16 * m + s) + k) = X 42 (30 * (16 * o + s) + k) := fun k hk => y1 k (by omega) hk
    obtain ⟨X', J', k4, c4, b4, e33', e34'⟩ := ih (s + 1) f X2 J2 (by omega) (by omega) (by rw [z34]; exact e34) (fun t ht => by
      rcases (show t = s ∨ t < s by omega) with rfl | z
      · refine ⟨?_, ?_, ?_, ?_, ?_, ?_, fun k hk => ?_, fun k hk => ?_⟩
        · rw [z35, pk_us, a35]
        · rw [z36, pk_us, a36]
        · rw [z37, pk_us, a37]
        · rw [z38, pk_us, a38]
        · rw [z39, pk_us, a39]
        · rw [z40, pk_us, a40]
        · obtain ⟨c1, c2⟩ := v41 k hk
          obtain ⟨d1, d2⟩ := bI (30 * (16 * o + t) + k) (by omega)
          rw [c1, c2, d1, d2]
          exact ⟨rfl, rfl⟩
        · rw [w1 k (by omega) hk, bJ _ (by omega)]
      · obtain ⟨c1, c2, c3, c4, c5, c6, c7, c8⟩ := hC t z
        refine ⟨?_, ?_, ?_, ?_, ?_, ?_, fun k hk => ?_, fun k hk => ?_⟩
        · rw [z35, pk_un (by omega), c1]
        · rw [z36, pk_un (by omega), c2]
        · rw [z37, pk_un (by omega), c3]
        · rw [z38, pk_un (by omega), c4]
        · rw [z39, pk_un (by omega), c5]
        · rw [z40, pk_un (by omega), c6]
        · obtain ⟨d1, d2⟩ := u41 (30 * (16 * m + t) + k) (by omega)
          rw [d1, d2]
          exact c7 k hk
        · rw [w2 _ (by omega), c8 k hk]) ⟨fun p hp => by
        rw [z35, z36, z37, z38, z39, z40, pk_un (by omega), pk_un (by omega), pk_un (by omega), pk_un (by omega), pk_un (by omega), pk_un (by omega)]
        exact bA p hp, fun p hp => by
        obtain ⟨d1, d2⟩ := u41 p (by omega)
        rw [d1, d2]
        exact bI p hp, fun p hp => by
        rw [w2 _ (by omega)]
        exact bJ p hp⟩
    rw [show nI (s + 1) = nI s + 1 from (nI_add s 1).symm] at k4
    have r35 : (mz_tw rs v X J).2.1 35 (16 * o + s) = X 35 (16 * o + s) := rfl
    have r36 : (mz_tw rs v (mz_xX X 35 (16 * m + s) (X 35 (16 * o + s))) J).2.1 36 (16 * o + s) = X 36 (16 * o + s) := rfl
    have r37 : (mz_tw rs v (mz_xX (mz_xX X 35 (16 * m + s) (X 35 (16 * o + s))) 36 (16 * m + s) (X 36 (16 * o + s))) J).2.1 37 (16 * o + s) = X 37 (16 * o + s) := rfl
    have r38 : (mz_tw rs v (mz_xX (mz_xX (mz_xX X 35 (16 * m + s) (X 35 (16 * o + s))) 36 (16 * m + s) (X 36 (16 * o + s))) 37 (16 * m + s) (X 37 (16 * o + s))) J).2.1 38 (16 * o + s) = X 38 (16 * o + s) := rfl
    have r39 : (mz_tw rs v (mz_xX (mz_xX (mz_xX (mz_xX X 35 (16 * m + s) (X 35 (16 * o + s))) 36 (16 * m + s) (X 36 (16 * o + s))) 37 (16 * m + s) (X 37 (16 * o + s))) 38 (16 * m + s) (X 38 (16 * o + s))) J).2.1 39 (16 * o + s) = X 39 (16 * o + s) := rfl
    have r40 : (mz_tw rs v (mz_xX (mz_xX (mz_xX (mz_xX (mz_xX X 35 (16 * m + s) (X 35 (16 * o + s))) 36 (16 * m + s) (X 36 (16 * o + s))) 37 (16 * m + s) (X 37 (16 * o + s))) 38 (16 * m + s) (X 38 (16 * o + s))) 39 (16 * m + s) (X 39 (16 * o + s) &&& 1)) J).2.1 40 (16 * o + s) = X 40 (16 * o + s) := rfl
    refine ⟨X', J', ?_, c4, b4, by rw [e33', z33], by rw [e34', z34]⟩
    rw [fn_X12_twin_b53]
    simp only [rr_34, ra_34, rr_35, ra_35, rr_36, ra_36, rr_37, ra_37, rr_38, ra_38, rr_39, ra_39, rr_40, ra_40, rw_35, rw_36, rw_37, rw_38, rw_39, rw_40, ix_nI (show o < 60 by omega) (show 60 < 2 ^ 31 by omega), cl_nI (show o < 2 ^ 31 by omega), x34, if_neg ng, l16, ix_nI (show 16 * o + s < 960 by omega) (show 960 < 2 ^ 31 by omega), cl_nI (show 16 * o + s < 2 ^ 31 by omega), ix_nI (show 16 * m + s < 960 by omega) (show 960 < 2 ^ 31 by omega), cl_nI (show 16 * m + s < 2 ^ 31 by omega), r35, tw_35, r36, tw_36, r37, tw_37, r38, tw_38, r39, tw_39, r40, tw_40, k2', k3', k4, zo_s, if_true]

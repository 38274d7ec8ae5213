/-! the whole way -/
def wy_own (rs : mz_RS) : Nat → Nat → List Nat
  | 0, c => [c]
  | f + 1, c => c :: wy_own rs f (rs.2.1 4 c).toNatClampNeg
def wy_O (rs : mz_RS) : List Nat → List Nat → List Nat → Prop
  | ws, [], ws' => ws' = ws
  | ws, x :: ks, ws' => ∃ w1 k, wy_R (wy_G rs) ws (wy_G rs x) w1 k ∧ wy_O rs w1 ks ws'
/-- one type's line upward -/
theorem wy_up {n : Nat} {rs : mz_RS} {lv : Nat → Int32} (wc : mz_wc n rs lv) {c L : Nat} (hc : c < n) (hL : L < 8) (e : lv c = nI L) : (L = 0 ∧ rs.2.1 4 c = -9) ∨ ∃ p L', L = L' + 1 ∧ p < c ∧ rs.2.1 4 c = nI p ∧ lv p = nI L' := by
  rcases wc.2.2.2.1 c hc with ⟨h1, h2⟩ | ⟨p, hp, h1, h2⟩
  · left
    refine ⟨?_, h1⟩
    rw [e] at h2
    have := congrArg Int32.toNatClampNeg h2
    rw [cl_nI (by omega)] at this
    exact this
  · right
    obtain ⟨l, hl, el⟩ := wc.2.2.2.2.1 p (by omega)
    refine ⟨p, l, ?_, hp, h1, el⟩
    rw [e, el, show nI l + 1 = nI (l + 1) from nI_add l 1] at h2
    have := congrArg Int32.toNatClampNeg h2
    rw [cl_nI (by omega), cl_nI (by omega)] at this
    exact this
theorem wy_own1 {n : Nat} {rs : mz_RS} {lv : Nat → Int32} (wc : mz_wc n rs lv) : ∀ (L c : Nat), c < n → L < 8 → lv c = nI L → (wy_own rs L c).length = L + 1 ∧ (wy_own rs L c).Nodup ∧ ∀ y, y ∈ wy_own rs L c → y ≤ c := by
  have hn := wc.1
  intro L
  induction L with
  | zero =>
    intro c hc hL e
    refine ⟨rfl, by simp [wy_own], fun y hy => ?_⟩
    have : y = c := by simpa [wy_own] using hy
    omega
  | succ L ih =>
    intro c hc hL e
    rcases wy_up wc hc hL e with ⟨h, -⟩ | ⟨p, L', h1, hp, e4, el⟩
    · omega
    · obtain rfl : L' = L := by omega
      obtain ⟨i1, i2, i3⟩ := ih p (by omega) (by omega) el
      have ep : (rs.2.1 4 c).toNatClampNeg = p := by rw [e4, cl_nI (by omega)]
      rw [wy_own, ep]
      refine ⟨by rw [List.length_cons, i1], List.nodup_cons.mpr ⟨fun hm => ?_, i2⟩, fun y hy => ?_⟩
      · have := i3 c hm
        omega
      · rcases List.mem_cons.mp hy with q | q
        · omega
        · have := i3 y q
          omega
section
variable {VB : Nat} {n m : Nat} {rs : mz_RS} {ad : mz_T → Nat} {lv : Nat → Int32} {mk : Nat → Nat} {mm : Nat → Nat → Nat × Nat} {gi : Nat → Nat → Nat → Int32} {go : Nat → Nat → Option Nat} {gj : Nat → Nat → Int64} {h : mz_H}
theorem cs_own (wc : mz_wc n rs lv) (sz : Nat) : ∀ (L c f : Nat) (ws : List Nat) (h : mz_H), c < n → lv c = nI L → wy_C VB n m rs ad lv mk mm gi go gj sz ws h → (∀ y, y ∈ ws → c < y) → ws.length + L + 1 ≤ 8 → L + 1 < f → ∃ h', fn_X10_wayLengthOf_b33 f h (some (ad (2, 0, 0, 0))) (nI c) (nI ws.length) = fn_X10_wayLengthOf_b63 h' (some (ad (2, 0, 0, 0))) ∧ wy_C VB n m rs ad lv mk mm gi go gj sz (ws ++ wy_own rs L c) h' := by
  have hn := wc.1
  intro L
  induction L with
  | zero =>
    intro c f ws h hc e C hlt hl hf
    obtain ⟨f, rfl⟩ : ∃ g', f = g' + 2 := ⟨f - 2, by omega⟩
    rcases wy_up wc hc (by omega) e with ⟨-, e4⟩ | ⟨p, L', h1, -⟩
    · obtain ⟨h1, e1, C1⟩ := cs_meet1 C hn hc (fun hm => by have := hlt c hm; omega) (by omega)
      refine ⟨h1, ?_, C1⟩
      obtain ⟨a, A, M, hR, -⟩ := C
      obtain ⟨a1, A1, M1, hR1, -⟩ := C1
      have n7 : ¬ (7 : Int32) < nI ws.length := nI_nlt (show ws.length ≤ 7 by omega) (show 7 < 2 ^ 31 by omega)
      have no9 : fn_X10_meet h1 (some (ad (2, 0, 0, 0))) (-9) = some (0, h1, 0, 0) := by
        simp only [fn_X10_meet, ci_2 hR1, cs_typeOf_no hR1 (show (-9 : Int32) < 0 ∨ nI n ≤ -9 from Or.inl (by decide)), zo_s, zc_t, zl_0, zr_e, z_0, z_1, if_true]
      have S2 : fn_X10_wayLengthOf_b33 (f + 1) h1 (some (ad (2, 0, 0, 0))) (-9) (nI ws.length + 1) = fn_X10_wayLengthOf_b63 h1 (some (ad (2, 0, 0, 0))) := by
        by_cases h7 : (7 : Int32) < nI ws.length + 1
        · simp only [fn_X10_wayLengthOf_b33, if_pos h7]
        · simp only [fn_X10_wayLengthOf_b33, if_neg h7, ci_2 hR1, no9, zc_t, zl_0, if_true]
      show fn_X10_wayLengthOf_b33 (f + 1 + 1) h _ _ _ = _
      rw [fn_X10_wayLengthOf_b33]
      simp only [if_neg n7, ci_2 hR, e1, if_neg one0, cg_2_0 hR1, ca_3 hR1, ix_nI (show c < 40 by omega) (show 40 < 2 ^ 31 by omega), cl_nI (show c < 2 ^ 31 by omega), if_pos hc, cg_6_1 hR1 hc, e4, S2, zo_s, zc_t, zl_0, if_true]
    · omega
  | succ L ih =>
    intro c f ws h hc e C hlt hl hf
    obtain ⟨f, rfl⟩ : ∃ g', f = g' + 1 := ⟨f - 1, by omega⟩
    rcases wy_up wc hc (by omega) e with ⟨h1, -⟩ | ⟨p, L', h1, hp, e4, el⟩
    · omega
    · obtain rfl : L' = L := by omega
      obtain ⟨h1, e1, C1⟩ := cs_meet1 C hn hc (fun hm => by have := hlt c hm; omega) (by omega)
      obtain ⟨h2, e2, C2⟩ := ih p f (ws ++ [c]) h1 (by omega) el C1 (fun y hy => by
        rcases List.mem_append.mp hy with q | q
        · have := hlt y q; omega
        · have : y = c := by simpa using q
          omega) (by rw [List.length_append, List.length_singleton]; omega) (by omega)
      have ep : (rs.2.1 4 c).toNatClampNeg = p := by rw [e4, cl_nI (by omega)]
      refine ⟨h2, ?_, by rw [wy_own, ep]; simpa using C2⟩
      rw [List.length_append, List.length_singleton, show nI (ws.length + 1) = nI ws.length + 1 from (nI_add _ 1).symm] at e2
      obtain ⟨a, A, M, hR, -⟩ := C
      obtain ⟨a1, A1, M1, hR1, -⟩ := C1
      have n7 : ¬ (7 : Int32) < nI ws.length := nI_nlt (show ws.length ≤ 7 by omega) (show 7 < 2 ^ 31 by omega)
      rw [fn_X10_wayLengthOf_b33]
      simp only [if_neg n7, ci_2 hR, e1, if_neg one0, cg_2_0 hR1, ca_3 hR1, ix_nI (show c < 40 by omega) (show 40 < 2 ^ 31 by omega), cl_nI (show c < 2 ^ 31 by omega), if_pos hc, cg_6_1 hR1 hc, e4, e2, zo_s, zc_t, zl_0, if_true]
theorem rs_own (wc : mz_wc n rs lv) (q sz : Nat) : ∀ (L c f : Nat) (ws : List Nat) (a : Int32) (A B C : Nat → Int32), c < n → lv c = nI L → wy_W ws a A → ws.length + L + 1 ≤ 8 → L + 1 < f → ∃ a' A' f', wy_W (ws ++ wy_own rs L c) a' A' ∧ fn_X12_findWay_b7 f (mz_RH q sz (mz_wy rs a A B C)) (some q) (nI c) = fn_X12_findWay_b7 (f' + 1) (mz_RH q sz (mz_wy rs a' A' B C)) (some q) (-9) := by
  have hn := wc.1
  intro L
  induction L with
  | zero =>
    intro c f ws a A B C hc e w hl hf
    obtain ⟨f, rfl⟩ : ∃ g', f = g' + 2 := ⟨f - 2, by omega⟩
    rcases wy_up wc hc (by omega) e with ⟨-, e4⟩ | ⟨p, L', h1, -⟩
    · have PU := rs_put (rs := rs) (B := B) (C := C) q sz w (show ws.length < 40 by omega) (nI c)
      refine ⟨_, _, f, wy_Wapp w, ?_⟩
      have e4' : ∀ a A, (mz_wy rs a A B C).2.1 4 c = -9 := fun _ _ => e4
      conv => lhs; rw [show f + 2 = (f + 1) + 1 from rfl, fn_X12_findWay_b7]
      simp only [if_neg (nI_ne9 (show c < 2 ^ 31 by omega)), mz_RH_is, PU, rr_4, ra_4, ix_nI (show c < 40 by omega) (show 40 < 2 ^ 31 by omega), cl_nI (show c < 2 ^ 31 by omega), e4', zo_s, zc_t, zl_0, if_true]
    · omega
  | succ L ih =>
    intro c f ws a A B C hc e w hl hf
    obtain ⟨f, rfl⟩ : ∃ g', f = g' + 1 := ⟨f - 1, by omega⟩
    rcases wy_up wc hc (by omega) e with ⟨h1, -⟩ | ⟨p, L', h1, hp, e4, el⟩
    · omega
    · obtain rfl : L' = L := by omega
      have PU := rs_put (rs := rs) (B := B) (C := C) q sz w (show ws.length < 40 by omega) (nI c)
      obtain ⟨a', A', f', w', e'⟩ := ih p f (ws ++ [c]) (a + 1) (upd A ws.length (nI c)) B C (by omega) el (wy_Wapp w) (by rw [List.length_append, List.length_singleton]; omega) (by omega)
      have ep : (rs.2.1 4 c).toNatClampNeg = p := by rw [e4, cl_nI (by omega)]
      refine ⟨a', A', f', by rw [wy_own, ep]; simpa using w', ?_⟩
      have e4' : ∀ a A, (mz_wy rs a A B C).2.1 4 c = nI p := fun _ _ => e4
      conv => lhs; rw [fn_X12_findWay_b7]
      simp only [if_neg (nI_ne9 (show c < 2 ^ 31 by omega)), mz_RH_is, PU, rr_4, ra_4, ix_nI (show c < 40 by omega) (show 40 < 2 ^ 31 by omega), cl_nI (show c < 2 ^ 31 by omega), e4', e', zo_s, zc_t, zl_0, if_true]
end

/-! the way, joined -/
def wy_T (n : Nat) (rs : mz_RS) (lv : Nat → Int32) (c : Nat) (ws : List Nat) : Prop := ∃ L, L < 8 ∧ lv c = nI L ∧ wy_O rs (wy_own rs L c) (wy_own rs L c) ws ∧ ws.Nodup ∧ ∀ y, y ∈ ws → y < n
theorem wy_O_ex {n : Nat} {rs : mz_RS} {lv : Nat → Int32} (wc : mz_wc n rs lv) : ∀ (ks ws : List Nat), (∀ y, y ∈ ks → y < n) → ws.Nodup → (∀ y, y ∈ ws → y < n) → ∃ ws', wy_O rs ws ks ws' ∧ ws'.Nodup ∧ ∀ y, y ∈ ws' → y < n := by
  intro ks
  induction ks with
  | nil => exact fun ws _ h2 h3 => ⟨ws, rfl, h2, h3⟩
  | cons x ks ih =>
    intro ws h1 h2 h3
    have hG := wy_gG wc
    have hx := h1 x (List.mem_cons_self)
    obtain ⟨w1, k, r⟩ := wy_ex hG n (wy_G rs x) ws (by omega) (hG x hx).2 h2 h3
    obtain ⟨p1, p2, -⟩ := wy_ok hG r (hG x hx).2 h2 h3
    obtain ⟨ws', o, q1, q2⟩ := ih w1 (fun y hy => h1 y (List.mem_cons_of_mem _ hy)) p1 p2
    exact ⟨ws', ⟨w1, k, r, o⟩, q1, q2⟩
theorem wy_T_ex {n : Nat} {rs : mz_RS} {lv : Nat → Int32} (wc : mz_wc n rs lv) {c : Nat} (hc : c < n) : ∃ ws, wy_T n rs lv c ws := by
  obtain ⟨L, hL, e⟩ := wc.2.2.2.2.1 c hc
  obtain ⟨o1, o2, o3⟩ := wy_own1 wc L c hc hL e
  obtain ⟨ws, a, b, d⟩ := wy_O_ex wc (wy_own rs L c) (wy_own rs L c) (fun y hy => by have := o3 y hy; omega) o2 (fun y hy => by have := o3 y hy; omega)
  exact ⟨ws, L, hL, e, a, b, d⟩
theorem wy_T.len {n : Nat} {rs : mz_RS} {lv : Nat → Int32} {c : Nat} {ws : List Nat} (t : wy_T n rs lv c ws) : ws.length ≤ n := by
  obtain ⟨L, -, -, -, h1, h2⟩ := t
  exact nd_len n ws h1 h2
section
variable {VB : Nat} {n m : Nat} {rs : mz_RS} {ad : mz_T → Nat} {lv : Nat → Int32} {mk : Nat → Nat} {mm : Nat → Nat → Nat × Nat} {gi : Nat → Nat → Nat → Int32} {go : Nat → Nat → Option Nat} {gj : Nat → Nat → Int64} {h : mz_H}
theorem cs_outer (wc : mz_wc n rs lv) (sz : Nat) (own : List Nat) (ho : ∀ y, y ∈ own → y < n) : ∀ (ks : List Nat) (k f : Nat) (ws ws' : List Nat) (h : mz_H), ks = own.drop k → k ≤ own.length → wy_O rs ws ks ws' → wy_C VB n m rs ad lv mk mm gi go gj sz ws h → (∃ t, ws = own ++ t) → ws.Nodup → (∀ y, y ∈ ws → y < n) → ks.length < f → ∃ h', fn_X10_wayLengthOf_b71 f h (some (ad (2, 0, 0, 0))) (nI own.length) (nI k) = some (nI ws'.length, h', 0, 0) ∧ wy_C VB n m rs ad lv mk mm gi go gj sz ws' h' := by
  have hn := wc.1
  intro ks
  induction ks with
  | nil =>
    intro k f ws ws' h hk hkl O C hp hN hA hf
    have hge := dr_ge hk
    obtain ⟨f, rfl⟩ : ∃ g', f = g' + 1 := ⟨f - 1, by omega⟩
    have e : ws' = ws := O
    subst e
    refine ⟨h, ?_, C⟩
    obtain ⟨a, A, M, hR, w, -⟩ := C
    have hl := nd_len n _ hN hA
    obtain ⟨t, et⟩ := hp
    have : own.length ≤ ws'.length := by rw [et, List.length_append]; omega
    have ea : mz_gw gi a A M 0 0 0 = nI ws'.length := w.1
    have hle : nI own.length ≤ nI k := nI_le (by omega) (by omega)
    simp only [fn_X10_wayLengthOf_b71, if_pos hle, cg_2_3 hR, ea, zo_s, zc_t, zl_0, zr_e, z_0, z_1, if_true]
  | cons x ks ih =>
    intro k f ws ws' h hk hkl O C hp hN hA hf
    have hlt := dr_lt hk
    obtain ⟨f, rfl⟩ : ∃ g', f = g' + 1 := ⟨f - 1, by omega⟩
    rw [List.length_cons] at hf
    rw [List.drop_eq_getElem_cons hlt] at hk
    injection hk with hk1 hk2
    obtain ⟨w1, kk, r, O'⟩ := O
    have hx : x < n := ho x (by rw [hk1]; exact List.getElem_mem hlt)
    have hG := wy_gG wc
    obtain ⟨p1, p2, ⟨u, p3⟩, -⟩ := wy_ok hG r (hG x hx).2 hN hA
    have hl := nd_len n _ hN hA
    obtain ⟨t, et⟩ := hp
    have hol : own.length ≤ ws.length := by rw [et, List.length_append]; omega
    obtain ⟨h1, e1, C1⟩ := cs_visit wc sz r (hG x hx).2 x 0 59 1001 0 h C hx rfl (by omega) hN hA (by omega) (by omega) (by have := (hG x hx).1; omega)
    obtain ⟨h2, e2, C2⟩ := ih (k + 1) f w1 ws' h1 hk2 (by omega) O' C1 ⟨t ++ u, by rw [p3, et, List.append_assoc]⟩ p1 p2 (by omega)
    refine ⟨h2, ?_, C2⟩
    obtain ⟨a, A, M, hR, w, -⟩ := C
    have eA : mz_gw gi a A M 5 k 0 = nI x := by
      show A k = nI x
      rw [w.2 k (by omega), hk1, et, List.getD_eq_getElem?_getD, List.getElem?_append_left hlt, List.getElem?_eq_getElem hlt]
      rfl
    have hle : ¬ nI own.length ≤ nI k := nI_ge hlt (by omega)
    have z40 : (0 : Int32) ≤ 40 := by decide
    have MG : fn_X10_meetGuises 60 h (some (ad (2, 0, 0, 0))) (nI x) 0 = some ((), h1, 0, 0) := by
      show fn_X10_meetGuises (59 + 1) h (some (ad (2, 0, 0, 0))) (nI x) 0 = _
      rw [fn_X10_meetGuises]
      simp only [ci_2 hR, cs_typeOf hR hn hx, if_neg smn, if_pos z40, zc_t, zl_0]
      exact e1
    rw [show nI (k + 1) = nI k + 1 from (nI_add k 1).symm] at e2
    simp only [fn_X10_wayLengthOf_b71, if_neg hle, cg_2_2 hR, ca_4 hR, ix_nI (show k < 40 by omega) (show 40 < 2 ^ 31 by omega), cl_nI (show k < 2 ^ 31 by omega), eA, ci_2 hR, MG, e2, zo_s, zc_t, zl_0, if_true]
theorem rs_outer (wc : mz_wc n rs lv) (q sz : Nat) (own : List Nat) (ho : ∀ y, y ∈ own → y < n) : ∀ (ks : List Nat) (k f : Nat) (ws ws' : List Nat) (a : Int32) (A B C : Nat → Int32), ks = own.drop k → k ≤ own.length → wy_O rs ws ks ws' → wy_W ws a A → (∃ t, ws = own ++ t) → ws.Nodup → (∀ y, y ∈ ws → y < n) → ks.length < f → ∃ a' A' B' C', fn_X12_findWay_b35 f (mz_RH q sz (mz_wy rs a A B C)) (some q) (nI own.length) (nI k) = some ((), mz_RH q sz (mz_wy rs a' A' B' C'), 0, 0) ∧ wy_W ws' a' A' := by
  have hn := wc.1
  intro ks
  induction ks with
  | nil =>
    intro k f ws ws' a A B C hk hkl O w hp hN hA hf
    have hge := dr_ge hk
    obtain ⟨f, rfl⟩ : ∃ g', f = g' + 1 := ⟨f - 1, by omega⟩
    have e : ws' = ws := O
    subst e
    have hl := nd_len n _ hN hA
    obtain ⟨t, et⟩ := hp
    have : own.length ≤ ws'.length := by rw [et, List.length_append]; omega
    have hle : nI own.length ≤ nI k := nI_le (by omega) (by omega)
    exact ⟨a, A, B, C, by simp only [fn_X12_findWay_b35, if_pos hle, zo_s, zc_t, zl_0, zr_e, z_0, z_1, if_true], w⟩
  | cons x ks ih =>
    intro k f ws ws' a A B C hk hkl O w hp hN hA hf
    have hlt := dr_lt hk
    obtain ⟨f, rfl⟩ : ∃ g', f = g' + 1 := ⟨f - 1, by omega⟩
    rw [List.length_cons] at hf
    rw [List.drop_eq_getElem_cons hlt] at hk
    injection hk with hk1 hk2
    obtain ⟨w1, kk, r, O'⟩ := O
    have hx : x < n := ho x (by rw [hk1]; exact List.getElem_mem hlt)
    have hG := wy_gG wc
    obtain ⟨p1, p2, ⟨u, p3⟩, p4⟩ := wy_ok hG r (hG x hx).2 hN hA
    have hl := nd_len n _ hN hA
    have hl1 := nd_len n _ p1 p2
    have h3 := (hG x hx).1
    obtain ⟨t, et⟩ := hp
    have hol : own.length ≤ ws.length := by rw [et, List.length_append]; omega
    obtain ⟨fu, efu⟩ : ∃ fu, 1001 = (fu + 1 + 1) + kk := ⟨999 - kk, by omega⟩
    obtain ⟨a1, A1, B1, C1, v1, b1, c1, c1', e1⟩ := rs_visit wc r (hG x hx).2 q sz x 0 0 (fu + 1 + 1) a A (upd B 0 (nI x)) (upd C 0 0) (nI own.length) (nI k) (fn_X12_findWay_b35 f) hx rfl (by omega) hN hA (by omega) w pk_us pk_us
    obtain ⟨a2, A2, B2, C2, e2, v2⟩ := ih (k + 1) f w1 ws' a1 A1 B1 C1 hk2 (by omega) O' v1 ⟨t ++ u, by rw [p3, et, List.append_assoc]⟩ p1 p2 (by omega)
    refine ⟨a2, A2, B2, C2, ?_, v2⟩
    obtain ⟨g0, hg3, e5, eL, -⟩ := wy_Gx wc hx
    have eA : (mz_wy rs a A B C).2.1 16 k = nI x := by
      show A k = nI x
      rw [w.2 k (by omega), hk1, et, List.getD_eq_getElem?_getD, List.getElem?_append_left hlt, List.getElem?_eq_getElem hlt]
      rfl
    have hle : ¬ nI own.length ≤ nI k := nI_ge hlt (by omega)
    have i0 : mz_ix 0 41 = true := ix_nI (show 0 < 41 by omega) (by omega)
    have c0 : (0 : Int32).toNatClampNeg = 0 := rfl
    have f18 : (mz_wy rs a1 A1 B1 C1).2.1 18 0 = nI x := (b1 0 (by omega)).trans pk_us
    have f19 : (mz_wy rs a1 A1 B1 C1).2.1 19 0 = nI g0 := by
      show C1 0 = nI g0
      rw [c1', eL]
    have f5' : (mz_wy rs a1 A1 B1 C1).2.1 5 x = nI g0 := e5
    have m1 : (-1 : Int32) < 0 := by decide
    have n00 : ¬ (0 : Int32) < 0 := by decide
    have z01 : (0 : Int32) + -1 = -1 := by decide
    have S2 : fn_X12_findWay_b62 (fn_X12_findWay_b35 f) (fu + 1 + 1) (mz_RH q sz (mz_wy rs a1 A1 B1 C1)) (some q) (nI own.length) (nI k) (nI 0) = some ((), mz_RH q sz (mz_wy rs a2 A2 B2 C2), 0, 0) := by
      rw [← e2, show nI (k + 1) = nI k + 1 from (nI_add k 1).symm]
      show fn_X12_findWay_b62 (fn_X12_findWay_b35 f) (fu + 1 + 1) (mz_RH q sz (mz_wy rs a1 A1 B1 C1)) (some q) (nI own.length) (nI k) 0 = _
      simp only [fn_X12_findWay_b62, if_neg n00, rr_18, ra_18, rr_19, ra_19, rr_5, ra_5, i0, c0, f18, f19, ix_nI (show x < 40 by omega) (show 40 < 2 ^ 31 by omega), cl_nI (show x < 2 ^ 31 by omega), f5', z01, if_pos m1, fn_X12_findWay_b164, zo_s, if_true]
    have e1' : fn_X12_findWay_b62 (fn_X12_findWay_b35 f) 1001 (mz_RH q sz (mz_wy rs a A (upd B 0 (nI x)) (upd C 0 0))) (some q) (nI own.length) (nI k) 0 = some ((), mz_RH q sz (mz_wy rs a2 A2 B2 C2), 0, 0) := by
      rw [efu]
      exact e1.trans S2
    simp only [fn_X12_findWay_b35, if_neg hle, rr_18, rr_19, rr_16, ra_16, rw_18, rw_19, ix_nI (show k < 40 by omega) (show 40 < 2 ^ 31 by omega), cl_nI (show k < 2 ^ 31 by omega), eA, i0, c0, wy_s18, wy_s19, e1', zo_s, if_true]
/-- the class's way -/
theorem cs_way (wc : mz_wc n rs lv) {a : Int32} {A M : Nat → Int32} (hR : mz_Rp VB n m rs ad lv mk mm (mz_gw gi a A M) go gj h) {c : Nat} (hc : c < n) {ws : List Nat} (T : wy_T n rs lv c ws) : ∃ h', fn_X10_wayLengthOf h (some (ad (2, 0, 0, 0))) (nI c) = some (nI ws.length, h', 0, 0) ∧ wy_C VB n m rs ad lv mk mm gi go gj h.2 ws h' := by
  have hn := wc.1
  obtain ⟨L, hL, el, O, -, -⟩ := T
  obtain ⟨o1, o2, o3⟩ := wy_own1 wc L c hc hL el
  have ho : ∀ y, y ∈ wy_own rs L c → y < n := fun y hy => by have := o3 y hy; omega
  obtain ⟨h1, e1, R1, s1⟩ := cw_wl hR 0
  have Z : ∀ (d i f : Nat) (M : Nat → Int32) (h1 : mz_H), i + d = 40 → d < f → mz_Rp VB n m rs ad lv mk mm (mz_gw gi 0 A M) go gj h1 → h1.2 = h.2 → (∀ j, j < i → M j = 0) → ∃ h2 M', fn_X10_wayLengthOf_b7 f h1 (some (ad (2, 0, 0, 0))) (nI c) (nI i) = fn_X10_wayLengthOf_b33 1001 h2 (some (ad (2, 0, 0, 0))) (nI c) 0 ∧ mz_Rp VB n m rs ad lv mk mm (mz_gw gi 0 A M') go gj h2 ∧ h2.2 = h.2 ∧ ∀ j, j < 40 → M' j = 0 := by
    intro d
    induction d with
    | zero =>
      intro i f M h1 hi hf R1 s1 hM
      obtain ⟨f, rfl⟩ : ∃ g', f = g' + 1 := ⟨f - 1, by omega⟩
      obtain rfl : i = 40 := by omega
      have hle : Int32.ofNat 40 ≤ nI 40 := Int32.le_refl _
      exact ⟨h1, M, by simp only [fn_X10_wayLengthOf_b7, cg_2_4 R1, cl_5a R1, if_pos hle, zo_s], R1, s1, hM⟩
    | succ d ih =>
      intro i f M h1 hi hf R1 s1 hM
      obtain ⟨f, rfl⟩ : ∃ g', f = g' + 1 := ⟨f - 1, by omega⟩
      have hle : ¬ Int32.ofNat 40 ≤ nI i := nI_ge (show i < 40 by omega) (show 40 < 2 ^ 31 by omega)
      obtain ⟨h2, e2, R2, s2⟩ := cw_wm R1 (show i < 40 by omega) 0
      obtain ⟨h3, M3, e3, R3, s3, z3⟩ := ih (i + 1) f (upd M i 0) h2 (by omega) (by omega) R2 (s2.trans s1) (fun j hj => by
        by_cases hji : j = i
        · subst hji; exact pk_us
        · rw [pk_un hji]; exact hM j (by omega))
      refine ⟨h3, M3, ?_, R3, s3, z3⟩
      have z01 : (0 : Int32) &&& 1 = 0 := by decide
      rw [← e3, show nI (i + 1) = nI i + 1 from (nI_add i 1).symm]
      simp only [fn_X10_wayLengthOf_b7, cg_2_4 R1, cl_5a R1, if_neg hle, z01, e2, zo_s]
  obtain ⟨h2, M2, e2, R2, s2, z2⟩ := Z 40 0 1001 M h1 (by omega) (by omega) R1 s1 (fun j hj => absurd hj (by omega))
  have C2 : wy_C VB n m rs ad lv mk mm gi go gj h.2 [] h2 := ⟨0, A, M2, R2, ⟨rfl, fun i hi => absurd hi (by simp)⟩, fun j hj => by rw [z2 j hj, if_neg (List.not_mem_nil)], s2⟩
  obtain ⟨h3, e3, C3⟩ := cs_own wc h.2 L c 1001 [] h2 hc el C2 (fun y hy => absurd hy (List.not_mem_nil)) (by rw [List.length_nil]; omega) (by omega)
  rw [List.nil_append] at C3
  obtain ⟨h4, e4, C4⟩ := cs_outer wc h.2 (wy_own rs L c) ho (wy_own rs L c) 0 1001 (wy_own rs L c) ws h3 rfl (by omega) O C3 ⟨[], (List.append_nil _).symm⟩ o2 ho (by omega)
  refine ⟨h4, ?_, C4⟩
  obtain ⟨a3, A3, M3, R3, w3, -⟩ := C3
  have ea : mz_gw gi a3 A3 M3 0 0 0 = nI (wy_own rs L c).length := w3.1
  show mz_op (mz_pF h (some (ad (2, 0, 0, 0))) 9 3 (Value.int 0)) (fun h => fn_X10_wayLengthOf_b7 1001 h (some (ad (2, 0, 0, 0))) (nI c) 0) = _
  rw [e1, zo_s]
  refine e2.trans (e3.trans ?_)
  simp only [fn_X10_wayLengthOf_b63, cg_2_3 R3, ea, zo_s]
  exact e4
/-- the reference's way -/
theorem rs_way (wc : mz_wc n rs lv) (q sz : Nat) (a : Int32) (A B C : Nat → Int32) {c : Nat} (hc : c < n) {ws : List Nat} (T : wy_T n rs lv c ws) : ∃ a' A' B' C', fn_X12_findWay (mz_RH q sz (mz_wy rs a A B C)) (some q) (nI c) = some ((), mz_RH q sz (mz_wy rs a' A' B' C'), 0, 0) ∧ wy_W ws a' A' := by
  obtain ⟨L, hL, el, O, -, -⟩ := T
  obtain ⟨o1, o2, o3⟩ := wy_own1 wc L c hc hL el
  have ho : ∀ y, y ∈ wy_own rs L c → y < n := fun y hy => by have := o3 y hy; omega
  obtain ⟨a1, A1, f1, w1, e1⟩ := rs_own wc q sz L c 1001 [] 0 A B C hc el ⟨rfl, fun i hi => absurd hi (by simp)⟩ (by rw [List.length_nil]; omega) (by omega)
  rw [List.nil_append] at w1
  obtain ⟨a2, A2, B2, C2, e2, w2⟩ := rs_outer wc q sz (wy_own rs L c) ho (wy_own rs L c) 0 1001 (wy_own rs L c) ws a1 A1 B C rfl (by omega) O w1 ⟨[], (List.append_nil _).symm⟩ o2 ho (by omega)
  refine ⟨a2, A2, B2, C2, ?_, w2⟩
  have ea : (mz_wy rs a1 A1 B C).1 17 = nI (wy_own rs L c).length := w1.1
  show mz_op (mz_pF (mz_RH q sz (mz_wy rs a A B C)) (some q) 11 17 (Value.int 0)) (fun h => fn_X12_findWay_b7 1001 h (some q) (nI c)) = _
  rw [rp_17, zo_s, wy_s17]
  refine e1.trans ?_
  simp only [fn_X12_findWay_b7, rg_17, ea, zo_s, if_true]
  exact e2
end

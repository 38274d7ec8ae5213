/-! the visit on both sides -/
theorem nI_ne {a b : Nat} (h : a ≠ b) (ha : a < 2 ^ 31) (hb : b < 2 ^ 31) : ¬ nI a = nI b := fun e => h (by
  have := congrArg Int32.toNatClampNeg e
  rw [cl_nI ha, cl_nI hb] at this
  exact this)
theorem dr_lt {l gs : List Nat} {g i : Nat} (h : g :: gs = l.drop i) : i < l.length := by
  rcases Nat.lt_or_ge i l.length with q | q
  · exact q
  · rw [List.drop_eq_nil_of_le q] at h
    cases h
theorem dr_ge {l : List Nat} {i : Nat} (h : [] = l.drop i) : l.length ≤ i := by
  have := congrArg List.length h
  rw [List.length_drop, List.length_nil] at this
  omega
def wy_V (VB n m : Nat) (rs : mz_RS) (ad : mz_T → Nat) (lv : Nat → Int32) (mk : Nat → Nat) (mm : Nat → Nat → Nat × Nat) (gi : Nat → Nat → Nat → Int32) (go : Nat → Nat → Option Nat) (gj : Nat → Nat → Int64) (sz : Nat) (ws gs ws' : List Nat) : Prop := ∀ (x i f F d : Nat) (h : mz_H), wy_C VB n m rs ad lv mk mm gi go gj sz ws h → x < n → gs = (wy_G rs x).drop i → i ≤ (wy_G rs x).length → ws.Nodup → (∀ y, y ∈ ws → y < n) → 41 ≤ f + ws.length → d + 1 ≤ ws.length → (wy_G rs x).length < i + F → ∃ h', fn_X10_meetGuises_b20 (fn_X10_meetGuises f) F h (some (ad (2, 0, 0, 0))) (nI d) (some (ad (6, x, 0, 0))) (nI i) = some ((), h', 0, 0) ∧ wy_C VB n m rs ad lv mk mm gi go gj sz ws' h'
section
variable {VB : Nat} {n m : Nat} {rs : mz_RS} {ad : mz_T → Nat} {lv : Nat → Int32} {mk : Nat → Nat} {mm : Nat → Nat → Nat × Nat} {gi : Nat → Nat → Nat → Int32} {go : Nat → Nat → Option Nat} {gj : Nat → Nat → Int64} {h : mz_H}
theorem cs_visit (wc : mz_wc n rs lv) (sz : Nat) {ws gs ws' : List Nat} {k : Nat} (r : wy_R (wy_G rs) ws gs ws' k) (hb : ∀ y, y ∈ gs → y < n) : wy_V VB n m rs ad lv mk mm gi go gj sz ws gs ws' := by
  have hn := wc.1
  refine (r (fun ws gs ws' k => wy_P n ws gs ws' k ∧ ((∀ y, y ∈ gs → y < n) → wy_V VB n m rs ad lv mk mm gi go gj sz ws gs ws')) ?_ ?_ ?_).2 hb
  · refine fun ws => ⟨wy_P0 ws, fun _ => ?_⟩
    intro x i f F d h C hx hg hi hN hA hf hd hF
    obtain ⟨g, hg3, e5, eL, -⟩ := wy_Gx wc hx
    have hge := dr_ge hg
    obtain ⟨F, rfl⟩ : ∃ g', F = g' + 1 := ⟨F - 1, by omega⟩
    refine ⟨h, ?_, C⟩
    obtain ⟨a, A, M, hR, -⟩ := C
    have hle : nI g ≤ nI i := nI_le (by omega) (by omega)
    simp only [fn_X10_meetGuises_b20, cg_6_4 hR hx, e5, if_pos hle, zo_s, zc_t, zl_0, zr_e, z_0, z_1, if_true]
  · rintro ws gs ws' g k hw ⟨p, ih⟩
    refine ⟨wy_P1 p, fun hb => ?_⟩
    intro x i f F d h C hx hg hi hN hA hf hd hF
    obtain ⟨g0, hg3, e5, eL, hd0⟩ := wy_Gx wc hx
    have hlt := dr_lt hg
    obtain ⟨d0, hd0n, e6, ed⟩ := hd0 i (by omega)
    rw [ed] at hg
    injection hg with hg1 hg2
    subst hg1
    obtain ⟨F, rfl⟩ : ∃ g', F = g' + 1 := ⟨F - 1, by omega⟩
    obtain ⟨h', e', C'⟩ := ih (fun y hy => hb y (List.mem_cons_of_mem _ hy)) x (i + 1) f F d h C hx hg2 (by omega) hN hA hf hd (by omega)
    refine ⟨h', ?_, C'⟩
    have M0 := cs_meet0 C hn hd0n hw
    obtain ⟨a, A, M, hR, -⟩ := C
    have hle : ¬ nI g0 ≤ nI i := nI_ge (by omega) (by omega)
    rw [show nI (i + 1) = nI i + 1 from (nI_add i 1).symm] at e'
    simp only [fn_X10_meetGuises_b20, cg_6_4 hR hx, e5, if_neg hle, cg_6_3 hR hx, ca_7 hR hx, ix_nI (show i < 3 by omega) (show 3 < 2 ^ 31 by omega), cl_nI (show i < 2 ^ 31 by omega), if_pos (show i < 3 by omega), e6, ci_2 hR, M0, fn_X10_meetGuises_b57, e', zo_s, zc_t, zl_0, if_true]
  · rintro ws gs w1 w2 g k1 k2 hw ⟨p, ih1⟩ ⟨p2, ih2⟩
    refine ⟨wy_P2 (wy_gG wc) hw p p2, fun hb => ?_⟩
    intro x i f F d h C hx hg hi hN hA hf hd hF
    obtain ⟨g0, hg3, e5, eL, hd0⟩ := wy_Gx wc hx
    have hlt := dr_lt hg
    obtain ⟨d0, hd0n, e6, ed⟩ := hd0 i (by omega)
    rw [ed] at hg
    injection hg with hg1 hg2
    subst hg1
    obtain ⟨F, rfl⟩ : ∃ g', F = g' + 1 := ⟨F - 1, by omega⟩
    have nN := nd_app hN hw
    have nA := al_app hA hd0n
    have hl := nd_len n _ nN nA
    rw [List.length_append, List.length_singleton] at hl
    obtain ⟨f, rfl⟩ : ∃ g', f = g' + 1 := ⟨f - 1, by omega⟩
    obtain ⟨p3, p4, ⟨t, p5⟩, -⟩ := p (wy_gG wc _ hd0n).2 nN nA
    obtain ⟨h1, e1, C1⟩ := cs_meet1 C hn hd0n hw (by omega)
    obtain ⟨h2, e2, C2⟩ := ih1 (wy_gG wc _ hd0n).2 g 0 f 1001 (d + 1) h1 C1 hd0n rfl (by omega) nN nA (by rw [List.length_append, List.length_singleton]; omega) (by rw [List.length_append, List.length_singleton]; omega) (by have := (wy_gG wc _ hd0n).1; omega)
    have hl1 : ws.length ≤ w1.length := by
      rw [p5, List.length_append, List.length_append]
      omega
    obtain ⟨h', e', C'⟩ := ih2 (fun y hy => hb y (List.mem_cons_of_mem _ hy)) x (i + 1) (f + 1) F d h2 C2 hx hg2 (by omega) p3 p4 (by omega) (by omega) (by omega)
    refine ⟨h', ?_, C'⟩
    obtain ⟨a, A, M, hR, -⟩ := C
    obtain ⟨a1, A1, M1, hR1, -⟩ := C1
    have hle : ¬ nI g0 ≤ nI i := nI_ge (by omega) (by omega)
    have hd40 : nI (d + 1) ≤ 40 := nI_le (show d + 1 ≤ 40 by omega) (show 40 < 2 ^ 31 by omega)
    have self : fn_X10_meetGuises (f + 1) h1 (some (ad (2, 0, 0, 0))) (nI g) (nI d + 1) = some ((), h2, 0, 0) := by
      rw [show nI d + 1 = nI (d + 1) from nI_add d 1]
      simp only [fn_X10_meetGuises, ci_2 hR1, cs_typeOf hR1 hn hd0n, if_neg smn, if_pos hd40, zc_t, zl_0]
      exact e2
    rw [show nI (i + 1) = nI i + 1 from (nI_add i 1).symm] at e'
    simp only [fn_X10_meetGuises_b20, cg_6_4 hR hx, e5, if_neg hle, cg_6_3 hR hx, ca_7 hR hx, ix_nI (show i < 3 by omega) (show 3 < 2 ^ 31 by omega), cl_nI (show i < 2 ^ 31 by omega), if_pos (show i < 3 by omega), e6, ci_2 hR, e1, if_neg one0, cg_6_3 hR1 hx, ca_7 hR1 hx, ci_2 hR1, self, fn_X10_meetGuises_b57, e', zo_s, zc_t, zl_0, if_true]
end
/-! the reference's own -/
def mz_wy (rs : mz_RS) (a : Int32) (A B C : Nat → Int32) : mz_RS := (fun k => if k = 17 then a else rs.1 k, fun k => if k = 16 then A else if k = 18 then B else if k = 19 then C else rs.2.1 k, rs.2.2)
section
variable {rs : mz_RS} {a : Int32} {A B C : Nat → Int32}
theorem wy_s17 (v : Int32) : mz_si (mz_wy rs a A B C) 17 v = mz_wy rs v A B C := by
  refine Prod.ext (funext fun k => ?_) rfl
  show (if k = 17 then v else if k = 17 then a else rs.1 k) = if k = 17 then v else rs.1 k
  by_cases h : k = 17 <;> simp [h]
theorem wy_s16 (i : Nat) (v : Int32) : mz_sa (mz_wy rs a A B C) 16 i v = mz_wy rs a (upd A i v) B C := by
  refine Prod.ext rfl (Prod.ext (funext fun k => ?_) rfl)
  show (if k = 16 then upd A i v else if k = 16 then A else if k = 18 then B else if k = 19 then C else rs.2.1 k) = if k = 16 then upd A i v else if k = 18 then B else if k = 19 then C else rs.2.1 k
  by_cases h : k = 16 <;> simp [h]
theorem wy_s18 (i : Nat) (v : Int32) : mz_sa (mz_wy rs a A B C) 18 i v = mz_wy rs a A (upd B i v) C := by
  refine Prod.ext rfl (Prod.ext (funext fun k => ?_) rfl)
  show (if k = 18 then upd B i v else if k = 16 then A else if k = 18 then B else if k = 19 then C else rs.2.1 k) = if k = 16 then A else if k = 18 then upd B i v else if k = 19 then C else rs.2.1 k
  by_cases h : k = 18
  · subst h; rfl
  · simp [h]
theorem wy_s19 (i : Nat) (v : Int32) : mz_sa (mz_wy rs a A B C) 19 i v = mz_wy rs a A B (upd C i v) := by
  refine Prod.ext rfl (Prod.ext (funext fun k => ?_) rfl)
  show (if k = 19 then upd C i v else if k = 16 then A else if k = 18 then B else if k = 19 then C else rs.2.1 k) = if k = 16 then A else if k = 18 then B else if k = 19 then upd C i v else rs.2.1 k
  by_cases h : k = 19
  · subst h; rfl
  · simp [h]
theorem rs_put (q sz : Nat) {ws : List Nat} (w : wy_W ws a A) (hl : ws.length < 40) (g : Int32) : fn_X12_put (mz_RH q sz (mz_wy rs a A B C)) (some q) g = some ((), mz_RH q sz (mz_wy rs (a + 1) (upd A ws.length g) B C), 0, 0) := by
  obtain ⟨rfl, -⟩ := w
  have e : ∀ A, (mz_wy rs (nI ws.length) A B C).1 17 = nI ws.length := fun _ => rfl
  simp only [fn_X12_put, rr_16, rg_17, e, rw_16, ix_nI (show ws.length < 40 by omega) (show 40 < 2 ^ 31 by omega), cl_nI (show ws.length < 2 ^ 31 by omega), wy_s16, rp_17, wy_s17, zo_s, zc_t, zl_0, zr_e, z_0, z_1, if_true]
theorem or_b (P Q : Prop) [Decidable P] [Decidable Q] : (if P then (1 : Int32) else 0) ||| (if Q then 1 else 0) = if P ∨ Q then 1 else 0 := by
  by_cases hP : P <;> by_cases hQ : Q <;> simp [hP, hQ]
theorem rs_onWay (q sz : Nat) {ws : List Nat} (w : wy_W ws a A) (hl : ws.length ≤ 40) (hA : ∀ y, y ∈ ws → y < 40) {g : Nat} (hg : g < 40) : fn_X12_isOnWay (mz_RH q sz (mz_wy rs a A B C)) (some q) (nI g) = some (if g ∈ ws then 1 else 0, mz_RH q sz (mz_wy rs a A B C), 0, 0) := by
  obtain ⟨rfl, w2⟩ := w
  have e : (mz_wy rs (nI ws.length) A B C).1 17 = nI ws.length := rfl
  have L : ∀ (d c f : Nat), c + d = ws.length → d < f → fn_X12_isOnWay_b4 f (mz_RH q sz (mz_wy rs (nI ws.length) A B C)) (some q) (nI g) (if g ∈ ws.take c then 1 else 0) (nI c) = some (if g ∈ ws then 1 else 0, mz_RH q sz (mz_wy rs (nI ws.length) A B C), 0, 0) := by
    intro d
    induction d with
    | zero =>
      intro c f hc hf
      obtain ⟨f, rfl⟩ : ∃ g', f = g' + 1 := ⟨f - 1, by omega⟩
      have hle : nI ws.length ≤ nI c := nI_le (by omega) (by omega)
      have ht : ws.take c = ws := List.take_of_length_le (by omega)
      have zb : ((if g ∈ ws then (1 : Int32) else 0) &&& 1 == (if g ∈ ws then (1 : Int32) else 0)) = true := z_b _ (by split <;> simp)
      simp only [fn_X12_isOnWay_b4, rg_17, e, if_pos hle, ht, zb, zo_s, zc_t, zl_0, zr_e, z_0, z_1, if_true]
    | succ d ih =>
      intro c f hc hf
      obtain ⟨f, rfl⟩ : ∃ g', f = g' + 1 := ⟨f - 1, by omega⟩
      have hle : ¬ nI ws.length ≤ nI c := nI_ge (by omega) (by omega)
      have hcl : c < ws.length := by omega
      have I := ih (c + 1) f (by omega) (by omega)
      rw [show nI (c + 1) = nI c + 1 from (nI_add c 1).symm] at I
      have eA : (mz_wy rs (nI ws.length) A B C).2.1 16 c = nI ws[c] := by
        have := w2 c hcl
        rw [List.getD_eq_getElem?_getD, List.getElem?_eq_getElem hcl] at this
        exact this
      have ht : (g ∈ ws.take (c + 1)) = (g ∈ ws.take c ∨ ws[c] = g) := by
        rw [List.take_succ_eq_append_getElem hcl, List.mem_append, List.mem_singleton, eq_comm (a := g)]
      have hy := hA ws[c] (List.getElem_mem hcl)
      simp only [ht] at I
      by_cases h9 : ws[c] = g
      · have e9 : nI ws[c] = nI g := by rw [h9]
        have o9 : (if g ∈ ws.take c then (1 : Int32) else 0) ||| 1 = if g ∈ ws.take c ∨ ws[c] = g then 1 else 0 := by
          rw [← or_b, if_pos h9]
        simp only [fn_X12_isOnWay_b4, rg_17, e, if_neg hle, rr_16, ra_16, ix_nI (show c < 40 by omega) (show 40 < 2 ^ 31 by omega), cl_nI (show c < 2 ^ 31 by omega), eA, if_pos e9, fn_X12_isOnWay_b28, o9, I, zo_s, if_true]
      · have e9 : ¬ nI ws[c] = nI g := nI_ne h9 (by omega) (by omega)
        have o9 : (if g ∈ ws.take c then (1 : Int32) else 0) ||| 0 = if g ∈ ws.take c ∨ ws[c] = g then 1 else 0 := by
          rw [← or_b, if_neg h9]
        simp only [fn_X12_isOnWay_b4, rg_17, e, if_neg hle, rr_16, ra_16, ix_nI (show c < 40 by omega) (show 40 < 2 ^ 31 by omega), cl_nI (show c < 2 ^ 31 by omega), eA, if_neg e9, fn_X12_isOnWay_b28, o9, I, zo_s, if_true]
  have := L ws.length 0 1001 (by omega) (by omega)
  rw [List.take_zero, if_neg (List.not_mem_nil)] at this
  exact this
end
def wy_U (n : Nat) (rs : mz_RS) (ws gs ws' : List Nat) (k : Nat) : Prop := ∀ (q sz x i deep fuel : Nat) (a : Int32) (A B C : Nat → Int32) (x2 x3 : Int32) (rc : mz_H → Option Nat → Int32 → Int32 → mz_Res Unit), x < n → gs = (wy_G rs x).drop i → i ≤ (wy_G rs x).length → ws.Nodup → (∀ y, y ∈ ws → y < n) → deep + 1 ≤ ws.length → wy_W ws a A → B deep = nI x → C deep = nI i →
  ∃ a' A' B' C', wy_W ws' a' A' ∧ (∀ j, j ≤ deep → B' j = B j) ∧ (∀ j, j < deep → C' j = C j) ∧ C' deep = nI (wy_G rs x).length ∧ fn_X12_findWay_b62 rc (fuel + k) (mz_RH q sz (mz_wy rs a A B C)) (some q) x2 x3 (nI deep) = fn_X12_findWay_b62 rc fuel (mz_RH q sz (mz_wy rs a' A' B' C')) (some q) x2 x3 (nI deep)
theorem rs_visit {n : Nat} {rs : mz_RS} {lv : Nat → Int32} (wc : mz_wc n rs lv) {ws gs ws' : List Nat} {k : Nat} (r : wy_R (wy_G rs) ws gs ws' k) (hb : ∀ y, y ∈ gs → y < n) : wy_U n rs ws gs ws' k := by
  have hn := wc.1
  refine (r (fun ws gs ws' k => wy_P n ws gs ws' k ∧ ((∀ y, y ∈ gs → y < n) → wy_U n rs ws gs ws' k)) ?_ ?_ ?_).2 hb
  · refine fun ws => ⟨wy_P0 ws, fun _ => ?_⟩
    intro q sz x i deep fuel a A B C x2 x3 rc hx hg hi hN hA hd w hB hC
    have hge := dr_ge hg
    exact ⟨a, A, B, C, w, fun _ _ => rfl, fun _ _ => rfl, by rw [hC, show i = (wy_G rs x).length by omega], rfl⟩
  · rintro ws gs ws' g k hw ⟨p, ih⟩
    refine ⟨wy_P1 p, fun hb => ?_⟩
    intro q sz x i deep fuel a A B C x2 x3 rc hx hg hi hN hA hd w hB hC
    obtain ⟨g0, hg3, e5, eL, hd0⟩ := wy_Gx wc hx
    have hlt := dr_lt hg
    obtain ⟨d0, hd0n, e6, ed⟩ := hd0 i (by omega)
    rw [ed] at hg
    injection hg with hg1 hg2
    subst hg1
    have hl := nd_len n _ hN hA
    obtain ⟨a', A', B', C', w', b', c', c'', e'⟩ := ih (fun y hy => hb y (List.mem_cons_of_mem _ hy)) q sz x (i + 1) deep fuel a A B (upd C deep (nI i + 1)) x2 x3 rc hx hg2 (by omega) hN hA hd w hB (by rw [pk_us]; exact nI_add i 1)
    refine ⟨a', A', B', C', w', b', fun j hj => by rw [c' j hj, pk_un (by omega)], c'', ?_⟩
    rw [← e']
    have OW := rs_onWay (rs := rs) (B := B) (C := upd C deep (nI i + 1)) q sz w (show ws.length ≤ 40 by omega) (fun y hy => by have := hA y hy; omega) (show g < 40 by omega)
    rw [if_pos hw] at OW
    have e18 : (mz_wy rs a A B C).2.1 18 deep = nI x := hB
    have e19 : (mz_wy rs a A B C).2.1 19 deep = nI i := hC
    have e5' : (mz_wy rs a A B C).2.1 5 x = nI g0 := e5
    have e6' : (mz_wy rs a A B C).2.1 6 (3 * x + i) = nI g := e6
    have ne : ¬ nI i = nI g0 := nI_ne (by omega) (by omega) (by omega)
    show fn_X12_findWay_b62 rc (fuel + k + 1) _ _ _ _ _ = _
    simp only [fn_X12_findWay_b62, if_neg (nI_pos (show deep < 2 ^ 31 by omega)), rr_18, ra_18, rr_19, ra_19, rr_5, ra_5, rr_6, ra_6, rw_19, ix_nI (show deep < 41 by omega) (show 41 < 2 ^ 31 by omega), cl_nI (show deep < 2 ^ 31 by omega), e18, e19, ix_nI (show x < 40 by omega) (show 40 < 2 ^ 31 by omega), cl_nI (show x < 2 ^ 31 by omega), e5', if_neg ne, l3, ix_nI (show 3 * x + i < 120 by omega) (show 120 < 2 ^ 31 by omega), cl_nI (show 3 * x + i < 2 ^ 31 by omega), e6', wy_s19, mz_RH_is, OW, if_neg one0, fn_X12_findWay_b164, zo_s, zc_t, zl_0, if_true]
  · rintro ws gs w1 w2 g k1 k2 hw ⟨p, ih1⟩ ⟨p2, ih2⟩
    refine ⟨wy_P2 (wy_gG wc) hw p p2, fun hb => ?_⟩
    intro q sz x i deep fuel a A B C x2 x3 rc hx hg hi hN hA hd w hB hC
    obtain ⟨g0, hg3, e5, eL, hd0⟩ := wy_Gx wc hx
    have hlt := dr_lt hg
    obtain ⟨d0, hd0n, e6, ed⟩ := hd0 i (by omega)
    rw [ed] at hg
    injection hg with hg1 hg2
    subst hg1
    have nN := nd_app hN hw
    have nA := al_app hA hd0n
    have hl := nd_len n _ nN nA
    rw [List.length_append, List.length_singleton] at hl
    obtain ⟨p3, p4, ⟨t, p5⟩, -⟩ := p (wy_gG wc _ hd0n).2 nN nA
    have hl1 : ws.length ≤ w1.length := by
      rw [p5, List.length_append, List.length_append]
      omega
    obtain ⟨a1, A1, B1, C1, v1, b1, c1, c1', e1⟩ := ih1 (wy_gG wc _ hd0n).2 q sz g 0 (deep + 1) (fuel + k2 + 1) (a + 1) (upd A ws.length (nI g)) (upd B (deep + 1) (nI g)) (upd (upd C deep (nI i + 1)) (deep + 1) 0) x2 x3 rc hd0n rfl (by omega) nN nA (by rw [List.length_append, List.length_singleton]; omega) (wy_Wapp w) pk_us pk_us
    have B1d : B1 deep = nI x := by rw [b1 deep (by omega), pk_un (by omega)]; exact hB
    have C1d : C1 deep = nI (i + 1) := by rw [c1 deep (by omega), pk_un (by omega), pk_us]; exact nI_add i 1
    obtain ⟨a', A', B', C', w', b', c', c'', e'⟩ := ih2 (fun y hy => hb y (List.mem_cons_of_mem _ hy)) q sz x (i + 1) deep fuel a1 A1 B1 C1 x2 x3 rc hx hg2 (by omega) p3 p4 (by omega) v1 B1d C1d
    refine ⟨a', A', B', C', w', fun j hj => by rw [b' j hj, b1 j (by omega), pk_un (by omega)], fun j hj => by rw [c' j hj, c1 j (by omega), pk_un (by omega), pk_un (by omega)], c'', ?_⟩
    rw [← e']
    have OW := rs_onWay (rs := rs) (B := B) (C := upd C deep (nI i + 1)) q sz w (show ws.length ≤ 40 by omega) (fun y hy => by have := hA y hy; omega) (show g < 40 by omega)
    rw [if_neg hw] at OW
    have PU := rs_put (rs := rs) (B := B) (C := upd C deep (nI i + 1)) q sz w (show ws.length < 40 by omega) (nI g)
    have e18 : (mz_wy rs a A B C).2.1 18 deep = nI x := hB
    have e19 : (mz_wy rs a A B C).2.1 19 deep = nI i := hC
    have e5' : (mz_wy rs a A B C).2.1 5 x = nI g0 := e5
    have e6' : (mz_wy rs a A B C).2.1 6 (3 * x + i) = nI g := e6
    have ne : ¬ nI i = nI g0 := nI_ne (by omega) (by omega) (by omega)
    have ed1 : nI deep + 1 = nI (deep + 1) := nI_add deep 1
    have S1 : fn_X12_findWay_b62 rc (fuel + (k2 + 1 + k1 + 1)) (mz_RH q sz (mz_wy rs a A B C)) (some q) x2 x3 (nI deep) = fn_X12_findWay_b62 rc (fuel + k2 + 1 + k1) (mz_RH q sz (mz_wy rs (a + 1) (upd A ws.length (nI g)) (upd B (deep + 1) (nI g)) (upd (upd C deep (nI i + 1)) (deep + 1) 0))) (some q) x2 x3 (nI (deep + 1)) := by
      rw [show fuel + (k2 + 1 + k1 + 1) = (fuel + k2 + 1 + k1) + 1 by omega]
      simp only [fn_X12_findWay_b62, if_neg (nI_pos (show deep < 2 ^ 31 by omega)), rr_18, ra_18, rr_19, ra_19, rr_5, ra_5, rr_6, ra_6, rw_19, rw_18, ix_nI (show deep < 41 by omega) (show 41 < 2 ^ 31 by omega), cl_nI (show deep < 2 ^ 31 by omega), e18, e19, ix_nI (show x < 40 by omega) (show 40 < 2 ^ 31 by omega), cl_nI (show x < 2 ^ 31 by omega), e5', if_neg ne, l3, ix_nI (show 3 * x + i < 120 by omega) (show 120 < 2 ^ 31 by omega), cl_nI (show 3 * x + i < 2 ^ 31 by omega), e6', wy_s19, mz_RH_is, OW, PU, ed1, ix_nI (show deep + 1 < 41 by omega) (show 41 < 2 ^ 31 by omega), cl_nI (show deep + 1 < 2 ^ 31 by omega), wy_s18, fn_X12_findWay_b164, zo_s, zc_t, zl_0, if_true]
    rw [S1, e1]
    obtain ⟨g1, hg13, f5, fL, -⟩ := wy_Gx wc hd0n
    have f18 : (mz_wy rs a1 A1 B1 C1).2.1 18 (deep + 1) = nI g := by
      show B1 (deep + 1) = nI g
      rw [b1 (deep + 1) (by omega), pk_us]
    have f19 : (mz_wy rs a1 A1 B1 C1).2.1 19 (deep + 1) = nI g1 := by
      show C1 (deep + 1) = nI g1
      rw [c1', fL]
    have f5' : (mz_wy rs a1 A1 B1 C1).2.1 5 g = nI g1 := f5
    have em : nI (deep + 1) + (-1) = nI deep := by
      rw [← ed1, Int32.add_assoc, show (1 : Int32) + (-1) = 0 from by decide, Int32.add_zero]
    simp only [fn_X12_findWay_b62, if_neg (nI_pos (show deep + 1 < 2 ^ 31 by omega)), rr_18, ra_18, rr_19, ra_19, rr_5, ra_5, ix_nI (show deep + 1 < 41 by omega) (show 41 < 2 ^ 31 by omega), cl_nI (show deep + 1 < 2 ^ 31 by omega), f18, f19, ix_nI (show g < 40 by omega) (show 40 < 2 ^ 31 by omega), cl_nI (show g < 2 ^ 31 by omega), f5', em, fn_X12_findWay_b164, zo_s, if_true]

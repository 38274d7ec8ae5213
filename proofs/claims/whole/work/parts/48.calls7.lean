/-! below, way, says, face -/
theorem wy_id (rs : mz_RS) : rs = mz_wy rs (rs.1 17) (rs.2.1 16) (rs.2.1 18) (rs.2.1 19) := by
  refine Prod.ext (funext fun k => ?_) (Prod.ext (funext fun k => ?_) rfl)
  · show rs.1 k = if k = 17 then rs.1 17 else rs.1 k
    by_cases h : k = 17
    · rw [if_pos h, h]
    · rw [if_neg h]
  · show rs.2.1 k = if k = 16 then rs.2.1 16 else if k = 18 then rs.2.1 18 else if k = 19 then rs.2.1 19 else rs.2.1 k
    by_cases h : k = 16
    · rw [if_pos h, h]
    · by_cases h2 : k = 18
      · rw [if_neg h, if_pos h2, h2]
      · by_cases h3 : k = 19
        · rw [if_neg h, if_neg h2, if_pos h3, h3]
        · rw [if_neg h, if_neg h2, if_neg h3]
section
variable {VB : Nat} {n m : Nat} {rs : mz_RS} {ad : mz_T → Nat} {lv : Nat → Int32} {mk : Nat → Nat} {mm : Nat → Nat → Nat × Nat} {gi : Nat → Nat → Nat → Int32} {go : Nat → Nat → Option Nat} {gj : Nat → Nat → Int64} {h : mz_H}
theorem mz_Rp.wy (hR : mz_Rp VB n m rs ad lv mk mm gi go gj h) (a : Int32) (A B C : Nat → Int32) : mz_Rp VB n m (mz_wy rs a A B C) ad lv mk mm gi go gj h := hR.same (by apply mz_hq <;> exact fun _ _ _ => Or.inl rfl)
theorem mz_Rp.gw (hR : mz_Rp VB n m rs ad lv mk mm gi go gj h) : mz_Rp VB n m rs ad lv mk mm (mz_gw gi (gi 0 0 0) (fun i => gi 5 i 0) (fun i => gi 6 i 0)) go gj h := hR.same (by apply mz_hq <;> first | (exact fun _ _ _ => Or.inl rfl) | (exact fun _ _ _ => Or.inl (keep15 ..)))
theorem mz_In.way {o l sz : Nat} {ws : List Nat} {h' : mz_H} (C : wy_C VB n m rs ad lv mk mm gi go gj sz ws h') (a : Int32) (A B D : Nat → Int32) (w : mz_wc n rs lv ∧ mz_wm n rs mk mm ∧ mz_wo n m rs ∧ mz_wt0 rs gi go ∧ mz_wl n rs ∧ mz_wq rs gj ∧ ad (1, 0, 0, 0) = o ∧ sz + 40 * (l + 1) + 1100 * (60 - m) ≤ VB) : mz_In VB o (l + 1) (mz_wy rs a A B D) h' := by
  obtain ⟨a0, A0, M0, R0, -, -, s0⟩ := C
  obtain ⟨w1, w2, w3, w4, w5, w6, w7, w8⟩ := w
  exact ⟨n, m, ad, lv, mk, mm, mz_gw gi a0 A0 M0, go, gj, R0.wy a A B D, w1, w2, w3, w4, w5, w6, w7, by omega⟩
theorem cs_isBelow (wc : mz_wc n rs lv) {a : Int32} {A M : Nat → Int32} (hR : mz_Rp VB n m rs ad lv mk mm (mz_gw gi a A M) go gj h) {c d : Nat} (hc : c < n) (hd : d < n) {ws : List Nat} (T : wy_T n rs lv c ws) : ∃ h', fn_X10_isBelow h (some (ad (2, 0, 0, 0))) (nI c) (nI d) = some (if d ∈ ws then 1 else 0, h', 0, 0) ∧ wy_C VB n m rs ad lv mk mm gi go gj h.2 ws h' := by
  have hn := wc.1
  obtain ⟨h1, e1, C1⟩ := cs_way wc hR hc T
  refine ⟨h1, ?_, C1⟩
  obtain ⟨a1, A1, M1, R1, -, wM, -⟩ := C1
  by_cases hw : d ∈ ws
  · have e : mz_gw gi a1 A1 M1 6 d 0 = 1 := (wM d (by omega)).trans (if_pos hw)
    simp only [fn_X10_isBelow, ci_2 hR, e1, ci_2 R1, cs_typeOf R1 hn hd, if_neg smn, cg_2_4 R1, ca_5 R1, ix_nI (show d < 40 by omega) (show 40 < 2 ^ 31 by omega), cl_nI (show d < 2 ^ 31 by omega), e, if_neg one0, if_pos hw, zo_s, zc_t, zl_0, zr_e, z_0, z_1, if_true]
  · have e : mz_gw gi a1 A1 M1 6 d 0 = 0 := (wM d (by omega)).trans (if_neg hw)
    simp only [fn_X10_isBelow, ci_2 hR, e1, ci_2 R1, cs_typeOf R1 hn hd, if_neg smn, cg_2_4 R1, ca_5 R1, ix_nI (show d < 40 by omega) (show 40 < 2 ^ 31 by omega), cl_nI (show d < 2 ^ 31 by omega), e, if_neg hw, zo_s, zc_t, zl_0, zr_e, z_0, z_1, if_true]
theorem rs_isBelow (wc : mz_wc n rs lv) (q sz : Nat) (a : Int32) (A B C : Nat → Int32) {c d : Nat} (hc : c < n) (hd : d < n) {ws : List Nat} (T : wy_T n rs lv c ws) : ∃ a' A' B' C', fn_X12_isBelow (mz_RH q sz (mz_wy rs a A B C)) (some q) (nI c) (nI d) = some (if d ∈ ws then 1 else 0, mz_RH q sz (mz_wy rs a' A' B' C'), 0, 0) ∧ wy_W ws a' A' := by
  have hn := wc.1
  have hl := T.len
  obtain ⟨a1, A1, B1, C1, e1, w1⟩ := rs_way wc q sz a A B C hc T
  refine ⟨a1, A1, B1, C1, ?_, w1⟩
  have OW := rs_onWay (rs := rs) (B := B1) (C := C1) q sz w1 (by omega) (fun y hy => by
    obtain ⟨L, -, -, -, -, h2⟩ := T
    have := h2 y hy
    omega) (show d < 40 by omega)
  have zb : ((if d ∈ ws then (1 : Int32) else 0) &&& 1 == (if d ∈ ws then (1 : Int32) else 0)) = true := z_b _ (by split <;> simp)
  simp only [fn_X12_isBelow, mz_RH_is, e1, OW, zb, zo_s, zc_t, zl_0, zr_e, z_0, z_1, if_true]
end
theorem mz_Ok.way {α : Type} {VB o q l : Nat} {rs : mz_RS} {h : mz_H} {fx fm : mz_H → mz_Res α} (r : α) (h' : mz_H) (a : Int32) (A B C : Nat → Int32) (hx : fx h = some (r, h', 0, 0)) (hs : h'.2 = h.2) (hm : fm (mz_RH q h.2 rs) = some (r, mz_RH q h.2 (mz_wy rs a A B C), 0, 0)) (H : mz_In VB o (l + 1) (mz_wy rs a A B C) h') : mz_Ok VB o q l rs fx fm h :=
  ⟨r, h', 0, 0, mz_wy rs a A B C, hx, by rw [hs]; exact hm, H.less, Nat.le_of_eq hs.symm, Nat.le_refl _, by omega, by omega⟩
theorem k_below {VB o q l : Nat} {rs : mz_RS} {h : mz_H} (H : mz_In VB o (l + 1) rs h) (x y : Int32) : mz_Ok VB o q l rs (fun h => fn_X11_below h (some o) x y) (fun h => fn_X12_below h (some q) x y) h := by
  obtain ⟨n, m, ad, lv, mk, mm, gi, go, gj, hR, w⟩ := id H
  obtain ⟨wc, wm, wo, wt, wl, wq, wa, wv⟩ := id w
  obtain rfl : ad (1, 0, 0, 0) = o := wa
  have hn40 := wc.1
  have hm60 := wo.1
  rcases mz_no x (show n < 2 ^ 31 by omega) with hx | ⟨c, hc, rfl⟩
  · exact mz_Ok.same H (-1) (by simp only [fn_X11_below, cg_1_0 hR, ci_2 hR, cs_typeOf_no hR hx, zo_s, zc_t, zl_0, zr_e, z_0, z_1, if_true]) (by simp only [fn_X12_below, mz_RH_is, rs_isClass_no q h.2 wc.2.1 hx, zo_s, zc_t, zl_0, zr_e, z_0, z_1, if_true])
  rcases mz_no y (show n < 2 ^ 31 by omega) with hy | ⟨d, hd, rfl⟩
  · exact mz_Ok.same H (-1) (by simp only [fn_X11_below, cg_1_0 hR, ci_2 hR, cs_typeOf hR wc.1 hc, if_neg smn, cs_typeOf_no hR hy, zo_s, zc_t, zl_0, zr_e, z_0, z_1, if_true]) (by simp only [fn_X12_below, mz_RH_is, rs_isClass q h.2 wc.2.1 wc.1 hc, if_neg one0, rs_isClass_no q h.2 wc.2.1 hy, zo_s, zc_t, zl_0, zr_e, z_0, z_1, if_true])
  obtain ⟨ws, T⟩ := wy_T_ex wc hc
  obtain ⟨h1, e1, C1⟩ := cs_isBelow wc hR.gw hc hd T
  have rc := fun z => rs_isClass (rs := rs) q h.2 wc.2.1 wc.1 (j := z)
  obtain ⟨a, A, B, C, e2, w2⟩ := rs_isBelow (rs := rs) wc q h.2 (rs.1 17) (rs.2.1 16) (rs.2.1 18) (rs.2.1 19) hc hd T
  rw [← wy_id rs] at e2
  have s1 : h1.2 = h.2 := by obtain ⟨_, _, _, _, _, _, s⟩ := C1; exact s
  refine mz_Ok.way (if d ∈ ws then 1 else 0) h1 a A B C ?_ s1 ?_ (mz_In.way C1 a A B C w)
  · by_cases hw : d ∈ ws
    · simp only [fn_X11_below, cg_1_0 hR, ci_2 hR, cs_typeOf hR wc.1 hc, cs_typeOf hR wc.1 hd, if_neg smn, e1, if_pos hw, if_neg one0, zo_s, zc_t, zl_0, zr_e, z_0, z_1, if_true]
    · simp only [fn_X11_below, cg_1_0 hR, ci_2 hR, cs_typeOf hR wc.1 hc, cs_typeOf hR wc.1 hd, if_neg smn, e1, if_neg hw, zo_s, zc_t, zl_0, zr_e, z_0, z_1, if_true]
  · by_cases hw : d ∈ ws
    · simp only [fn_X12_below, mz_RH_is, rc c hc, rc d hd, if_neg one0, e2, if_pos hw, zo_s, zc_t, zl_0, zr_e, z_0, z_1, if_true]
    · simp only [fn_X12_below, mz_RH_is, rc c hc, rc d hd, if_neg one0, e2, if_neg hw, zo_s, zc_t, zl_0, zr_e, z_0, z_1, if_true]
theorem k_way {VB o q l : Nat} {rs : mz_RS} {h : mz_H} (H : mz_In VB o (l + 1) rs h) (x y : Int32) : mz_Ok VB o q l rs (fun h => fn_X11_way h (some o) x y) (fun h => fn_X12_way h (some q) x y) h := by
  obtain ⟨n, m, ad, lv, mk, mm, gi, go, gj, hR, w⟩ := id H
  obtain ⟨wc, wm, wo, wt, wl, wq, wa, wv⟩ := id w
  obtain rfl : ad (1, 0, 0, 0) = o := wa
  have hn40 := wc.1
  have hm60 := wo.1
  rcases mz_no x (show n < 2 ^ 31 by omega) with hx | ⟨c, hc, rfl⟩
  · exact mz_Ok.same H (-1) (by simp only [fn_X11_way, cg_1_0 hR, ci_2 hR, cs_typeOf_no hR hx, zo_s, zc_t, zl_0, zr_e, z_0, z_1, if_true]) (by simp only [fn_X12_way, mz_RH_is, rs_isClass_no q h.2 wc.2.1 hx, zo_s, zc_t, zl_0, zr_e, z_0, z_1, if_true])
  obtain ⟨ws, T⟩ := wy_T_ex wc hc
  have hl := T.len
  obtain ⟨h1, e1, C1⟩ := cs_way wc hR.gw hc T
  obtain ⟨a, A, B, C, e2, w2⟩ := rs_way (rs := rs) wc q h.2 (rs.1 17) (rs.2.1 16) (rs.2.1 18) (rs.2.1 19) hc T
  rw [← wy_id rs] at e2
  have HI := mz_In.way C1 a A B C w
  obtain ⟨a0, A0, M0, R0, w0, -, s1⟩ := C1
  have e17 : (mz_wy rs a A B C).1 17 = nI ws.length := w2.1
  rcases mz_no y (show ws.length < 2 ^ 31 by omega) with hy | ⟨i, hi, rfl⟩
  · by_cases c1 : y < 0
    · refine mz_Ok.way (-9) h1 a A B C ?_ s1 ?_ HI
      · simp only [fn_X11_way, cg_1_0 hR, ci_2 hR, cs_typeOf hR wc.1 hc, if_neg smn, e1, if_pos c1, zo_s, zc_t, zl_0, zr_e, z_0, z_1, if_true]
      · simp only [fn_X12_way, mz_RH_is, rs_isClass (rs := rs) q h.2 wc.2.1 wc.1 hc, if_neg one0, e2, if_pos c1, zo_s, zc_t, zl_0, zr_e, z_0, z_1, if_true]
    · have c2 := hy.resolve_left c1
      refine mz_Ok.way (-9) h1 a A B C ?_ s1 ?_ HI
      · simp only [fn_X11_way, cg_1_0 hR, ci_2 hR, cs_typeOf hR wc.1 hc, if_neg smn, e1, if_neg c1, if_pos c2, zo_s, zc_t, zl_0, zr_e, z_0, z_1, if_true]
      · simp only [fn_X12_way, mz_RH_is, rs_isClass (rs := rs) q h.2 wc.2.1 wc.1 hc, if_neg one0, e2, if_neg c1, rg_17, e17, if_pos c2, zo_s, zc_t, zl_0, zr_e, z_0, z_1, if_true]
  · have i0 := nI_pos (show i < 2 ^ 31 by omega)
    have i1 := nI_ge hi (show ws.length < 2 ^ 31 by omega)
    have eA0 : mz_gw gi a0 A0 M0 5 i 0 = nI (ws.getD i 0) := w0.2 i hi
    have eA : (mz_wy rs a A B C).2.1 16 i = nI (ws.getD i 0) := w2.2 i hi
    refine mz_Ok.way (nI (ws.getD i 0)) h1 a A B C ?_ s1 ?_ HI
    · simp only [fn_X11_way, cg_1_0 hR, ci_2 hR, cs_typeOf hR wc.1 hc, if_neg smn, e1, if_neg i0, if_neg i1, cg_1_0 R0, cg_2_2 R0, ca_4 R0, ix_nI (show i < 40 by omega) (show 40 < 2 ^ 31 by omega), cl_nI (show i < 2 ^ 31 by omega), eA0, zo_s, zc_t, zl_0, zr_e, z_0, z_1, if_true]
    · simp only [fn_X12_way, mz_RH_is, rs_isClass (rs := rs) q h.2 wc.2.1 wc.1 hc, if_neg one0, e2, if_neg i0, rg_17, e17, if_neg i1, rr_16, ra_16, ix_nI (show i < 40 by omega) (show 40 < 2 ^ 31 by omega), cl_nI (show i < 2 ^ 31 by omega), eA, zo_s, zc_t, zl_0, zr_e, z_0, z_1, if_true]
theorem k_says {VB o q l : Nat} {rs : mz_RS} {h : mz_H} (H : mz_In VB o (l + 1) rs h) (x y : Int32) : mz_Ok VB o q l rs (fun h => fn_X11_says h (some o) x y) (fun h => fn_X12_says h (some q) x y) h := by
  obtain ⟨n, m, ad, lv, mk, mm, gi, go, gj, hR, w⟩ := id H
  obtain ⟨wc, wm, wo, wt, wl, wq, wa, wv⟩ := id w
  obtain rfl : ad (1, 0, 0, 0) = o := wa
  have hn40 := wc.1
  have hm60 := wo.1
  rcases mz_no x (show n < 2 ^ 31 by omega) with hx | ⟨c, hc, rfl⟩
  · exact mz_Ok.same H (-1) (by simp only [fn_X11_says, cg_1_0 hR, ci_2 hR, cs_typeOf_no hR hx, zo_s, zc_t, zl_0, zr_e, z_0, z_1, if_true]) (by simp only [fn_X12_says, mz_RH_is, rs_isClass_no q h.2 wc.2.1 hx, zo_s, zc_t, zl_0, zr_e, z_0, z_1, if_true])
  have RC := fun sz => rs_isClass (rs := rs) q sz wc.2.1 wc.1 hc
  by_cases c5 : y = 5
  · subst c5
    obtain ⟨ws, T⟩ := wy_T_ex wc hc
    obtain ⟨h1, e1, C1⟩ := cs_way wc hR.gw hc T
    obtain ⟨a, A, B, C, e2, w2⟩ := rs_way (rs := rs) wc q h.2 (rs.1 17) (rs.2.1 16) (rs.2.1 18) (rs.2.1 19) hc T
    rw [← wy_id rs] at e2
    have s1 : h1.2 = h.2 := by obtain ⟨_, _, _, _, _, _, s⟩ := C1; exact s
    have e17 : (mz_wy rs a A B C).1 17 = nI ws.length := w2.1
    have n0 : ¬ (5 : Int32) = 0 := by decide
    have n1 : ¬ (5 : Int32) = 1 := by decide
    have n2 : ¬ (5 : Int32) = 2 := by decide
    have n3 : ¬ (5 : Int32) = 3 := by decide
    have n4 : ¬ (5 : Int32) = 4 := by decide
    refine mz_Ok.way (nI ws.length) h1 a A B C ?_ s1 ?_ (mz_In.way C1 a A B C w)
    · simp only [fn_X11_says, cg_1_0 hR, ci_2 hR, cs_typeOf hR wc.1 hc, if_neg smn, if_neg n0, if_neg n1, if_neg n2, if_neg n3, if_neg n4, e1, zo_s, zc_t, zl_0, zr_e, z_0, z_1, if_true]
    · simp only [fn_X12_says, mz_RH_is, RC, if_neg one0, if_neg n0, if_neg n1, if_neg n2, if_neg n3, if_neg n4, e2, rg_17, e17, zo_s, zc_t, zl_0, zr_e, z_0, z_1, if_true]
  have m9 := (wm.1 c hc).2
  refine mz_Ok.same H (if y = 0 then rs.2.1 3 c else if y = 1 then rs.2.1 4 c else if y = 2 then rs.2.1 5 c else if y = 3 then rs.2.1 7 c else if y = 4 then nI (mk c) else if y = 6 then (if rs.2.1 14 c = 0 then 0 else 1) else if y = 7 then (if rs.2.1 3 c = 0 then 10 else if rs.2.1 3 c = 2 then 7 else if rs.2.1 3 c = 3 then 12 else if rs.2.1 3 c = 5 then 6 else 5) else if y = 8 then 0 else -2) ?_ ?_
  · simp only [fn_X11_says, cg_1_0 hR, ci_2 hR, cs_typeOf hR wc.1 hc, if_neg smn, if_neg c5, cg_6_0 hR hc, cg_6_1 hR hc, cg_6_4 hR hc, cg_6_6 hR hc, cg_6_8 hR hc, cg_6_10 hR hc, ci_6 hR hc, cs_cost hR hc, zo_s, zc_t, zl_0, zr_e, z_0, z_1, if_true]
    by_cases d0 : y = 0
    · simp only [if_pos d0]
    by_cases d1 : y = 1
    · simp only [if_neg d0, if_pos d1]
    by_cases d2 : y = 2
    · simp only [if_neg d0, if_neg d1, if_pos d2]
    by_cases d3 : y = 3
    · simp only [if_neg d0, if_neg d1, if_neg d2, if_pos d3]
    by_cases d4 : y = 4
    · simp only [if_neg d0, if_neg d1, if_neg d2, if_neg d3, if_pos d4]
    by_cases d6 : y = 6
    · by_cases u : rs.2.1 14 c = 0 <;> simp only [if_neg d0, if_neg d1, if_neg d2, if_neg d3, if_neg d4, if_pos d6, u, if_true, if_false]
    by_cases d7 : y = 7
    · simp only [if_neg d0, if_neg d1, if_neg d2, if_neg d3, if_neg d4, if_neg d6, if_pos d7]
    by_cases d8 : y = 8
    · simp only [if_neg d0, if_neg d1, if_neg d2, if_neg d3, if_neg d4, if_neg d6, if_neg d7, if_pos d8]
    · simp only [if_neg d0, if_neg d1, if_neg d2, if_neg d3, if_neg d4, if_neg d6, if_neg d7, if_neg d8]
  · simp only [fn_X12_says, mz_RH_is, RC, if_neg one0, if_neg c5, rr_3, ra_3, rr_4, ra_4, rr_5, ra_5, rr_7, ra_7, rr_9, ra_9, rr_14, ra_14, ix_nI (show c < 40 by omega) (show 40 < 2 ^ 31 by omega), cl_nI (show c < 2 ^ 31 by omega), m9, rs_cost q h.2 (show c < 40 by omega), zo_s, zc_t, zl_0, zr_e, z_0, z_1, if_true]
    by_cases d0 : y = 0
    · simp only [if_pos d0]
    by_cases d1 : y = 1
    · simp only [if_neg d0, if_pos d1]
    by_cases d2 : y = 2
    · simp only [if_neg d0, if_neg d1, if_pos d2]
    by_cases d3 : y = 3
    · simp only [if_neg d0, if_neg d1, if_neg d2, if_pos d3]
    by_cases d4 : y = 4
    · simp only [if_neg d0, if_neg d1, if_neg d2, if_neg d3, if_pos d4]
    by_cases d6 : y = 6
    · by_cases u : rs.2.1 14 c = 0 <;> simp only [if_neg d0, if_neg d1, if_neg d2, if_neg d3, if_neg d4, if_pos d6, u, if_true, if_false]
    by_cases d7 : y = 7
    · simp only [if_neg d0, if_neg d1, if_neg d2, if_neg d3, if_neg d4, if_neg d6, if_pos d7]
    by_cases d8 : y = 8
    · simp only [if_neg d0, if_neg d1, if_neg d2, if_neg d3, if_neg d4, if_neg d6, if_neg d7, if_pos d8]
    · simp only [if_neg d0, if_neg d1, if_neg d2, if_neg d3, if_neg d4, if_neg d6, if_neg d7, if_neg d8]

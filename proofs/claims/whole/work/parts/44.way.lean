/-! the way of a type: a visit in depth, on both sides -/
def wy_G (rs : mz_RS) (x : Nat) : List Nat := (List.range (rs.2.1 5 x).toNatClampNeg).map (fun i => (rs.2.1 6 (3 * x + i)).toNatClampNeg)
def wy_R (G : Nat → List Nat) (ws gs ws' : List Nat) (k : Nat) : Prop := ∀ P : List Nat → List Nat → List Nat → Nat → Prop, (∀ ws, P ws [] ws 0) → (∀ ws gs ws' g k, g ∈ ws → P ws gs ws' k → P ws (g :: gs) ws' (k + 1)) → (∀ ws gs w1 w2 g k1 k2, ¬ g ∈ ws → P (ws ++ [g]) (G g) w1 k1 → P w1 gs w2 k2 → P ws (g :: gs) w2 (k2 + 1 + k1 + 1)) → P ws gs ws' k
theorem wy_nil (G : Nat → List Nat) (ws : List Nat) : wy_R G ws [] ws 0 := fun _ a _ _ => a ws
theorem wy_old {G : Nat → List Nat} {ws gs ws' : List Nat} {g k : Nat} (h : g ∈ ws) (r : wy_R G ws gs ws' k) : wy_R G ws (g :: gs) ws' (k + 1) := fun P a b c => b _ _ _ _ _ h (r P a b c)
theorem wy_new {G : Nat → List Nat} {ws gs w1 w2 : List Nat} {g k1 k2 : Nat} (h : ¬ g ∈ ws) (r1 : wy_R G (ws ++ [g]) (G g) w1 k1) (r2 : wy_R G w1 gs w2 k2) : wy_R G ws (g :: gs) w2 (k2 + 1 + k1 + 1) := fun P a b c => c _ _ _ _ _ _ _ h (r1 P a b c) (r2 P a b c)
theorem nd_len : ∀ (n : Nat) (ws : List Nat), ws.Nodup → (∀ y, y ∈ ws → y < n) → ws.length ≤ n
  | 0, ws, _, h => by
    cases ws with
    | nil => exact Nat.le_refl _
    | cons a t => exact absurd (h a (List.mem_cons_self)) (by omega)
  | n + 1, ws, h1, h2 => by
    have := nd_len n (ws.erase n) (h1.erase n) (fun y hy => by
      have h3 := (h1.mem_erase_iff).mp hy
      have h4 := h2 y h3.2
      have h5 := h3.1
      omega)
    rw [List.length_erase] at this
    split at this <;> omega
theorem nd_app {ws : List Nat} {g : Nat} (h : ws.Nodup) (hg : ¬ g ∈ ws) : (ws ++ [g]).Nodup := by
  refine List.nodup_append.mpr ⟨h, by simp, fun a ha b hb e => ?_⟩
  have : b = g := by simpa using hb
  subst this
  subst e
  exact hg ha
theorem al_app {n : Nat} {ws : List Nat} {g : Nat} (h : ∀ y, y ∈ ws → y < n) (hg : g < n) : ∀ y, y ∈ ws ++ [g] → y < n := fun y hy => by
  rcases List.mem_append.mp hy with q | q
  · exact h y q
  · have : y = g := by simpa using q
    omega
def wy_P (n : Nat) (ws gs ws' : List Nat) (k : Nat) : Prop := (∀ y, y ∈ gs → y < n) → ws.Nodup → (∀ y, y ∈ ws → y < n) → ws'.Nodup ∧ (∀ y, y ∈ ws' → y < n) ∧ (∃ t, ws' = ws ++ t) ∧ k + 4 * ws.length ≤ gs.length + 4 * ws'.length
def wy_g (n : Nat) (G : Nat → List Nat) : Prop := ∀ x, x < n → (G x).length ≤ 3 ∧ ∀ y, y ∈ G x → y < n
theorem wy_P0 {n : Nat} (ws : List Nat) : wy_P n ws [] ws 0 := fun _ a b => ⟨a, b, ⟨[], (List.append_nil _).symm⟩, by simp⟩
theorem wy_P1 {n : Nat} {ws gs ws' : List Nat} {g k : Nat} (p : wy_P n ws gs ws' k) : wy_P n ws (g :: gs) ws' (k + 1) := fun a b c => by
  obtain ⟨p1, p2, p3, p4⟩ := p (fun y hy => a y (List.mem_cons_of_mem _ hy)) b c
  refine ⟨p1, p2, p3, ?_⟩
  rw [List.length_cons]
  omega
theorem wy_P2 {n : Nat} {G : Nat → List Nat} (hG : wy_g n G) {ws gs w1 w2 : List Nat} {g k1 k2 : Nat} (h : ¬ g ∈ ws) (p : wy_P n (ws ++ [g]) (G g) w1 k1) (q : wy_P n w1 gs w2 k2) : wy_P n ws (g :: gs) w2 (k2 + 1 + k1 + 1) := fun a b c => by
  have hg := a g (List.mem_cons_self)
  obtain ⟨p1, p2, ⟨t, p3⟩, p4⟩ := p (hG g hg).2 (nd_app b h) (al_app c hg)
  obtain ⟨q1, q2, ⟨u, q3⟩, q4⟩ := q (fun y hy => a y (List.mem_cons_of_mem _ hy)) p1 p2
  refine ⟨q1, q2, ⟨[g] ++ t ++ u, by rw [q3, p3]; simp⟩, ?_⟩
  have := (hG g hg).1
  rw [List.length_append, List.length_singleton] at p4
  rw [List.length_cons]
  omega
theorem wy_ok {n : Nat} {G : Nat → List Nat} (hG : wy_g n G) {ws gs ws' : List Nat} {k : Nat} (r : wy_R G ws gs ws' k) : wy_P n ws gs ws' k :=
  r (wy_P n) wy_P0 (fun _ _ _ _ _ _ p => wy_P1 p) (fun _ _ _ _ _ _ _ h p q => wy_P2 hG h p q)
theorem wy_ex {n : Nat} {G : Nat → List Nat} (hG : wy_g n G) : ∀ (N : Nat) (gs ws : List Nat), n ≤ ws.length + N → (∀ y, y ∈ gs → y < n) → ws.Nodup → (∀ y, y ∈ ws → y < n) → ∃ ws' k, wy_R G ws gs ws' k := by
  intro N
  induction N with
  | zero =>
    intro gs
    induction gs with
    | nil => exact fun ws _ _ _ _ => ⟨ws, 0, wy_nil G ws⟩
    | cons g gs ih =>
      intro ws h1 h2 h3 h4
      by_cases hg : g ∈ ws
      · obtain ⟨ws', k, r⟩ := ih ws h1 (fun y hy => h2 y (List.mem_cons_of_mem _ hy)) h3 h4
        exact ⟨ws', k + 1, wy_old hg r⟩
      · have := nd_len n (ws ++ [g]) (nd_app h3 hg) (al_app h4 (h2 g (List.mem_cons_self)))
        rw [List.length_append, List.length_singleton] at this
        omega
  | succ N IH =>
    intro gs
    induction gs with
    | nil => exact fun ws _ _ _ _ => ⟨ws, 0, wy_nil G ws⟩
    | cons g gs ih =>
      intro ws h1 h2 h3 h4
      by_cases hg : g ∈ ws
      · obtain ⟨ws', k, r⟩ := ih ws h1 (fun y hy => h2 y (List.mem_cons_of_mem _ hy)) h3 h4
        exact ⟨ws', k + 1, wy_old hg r⟩
      · have hgn := h2 g (List.mem_cons_self)
        obtain ⟨w1, k1, r1⟩ := IH (G g) (ws ++ [g]) (by rw [List.length_append, List.length_singleton]; omega) (hG g hgn).2 (nd_app h3 hg) (al_app h4 hgn)
        obtain ⟨p1, p2, ⟨t, p3⟩, -⟩ := wy_ok hG r1 (hG g hgn).2 (nd_app h3 hg) (al_app h4 hgn)
        obtain ⟨w2, k2, r2⟩ := IH gs w1 (by rw [p3, List.length_append, List.length_append, List.length_singleton]; omega) (fun y hy => h2 y (List.mem_cons_of_mem _ hy)) p1 p2
        exact ⟨w2, _, wy_new hg r1 r2⟩
/-- the guises of a type, one by one -/
theorem wy_Gx {n : Nat} {rs : mz_RS} {lv : Nat → Int32} (wc : mz_wc n rs lv) {x : Nat} (hx : x < n) : ∃ g, g ≤ 3 ∧ rs.2.1 5 x = nI g ∧ (wy_G rs x).length = g ∧ ∀ i, i < g → ∃ d, d < n ∧ rs.2.1 6 (3 * x + i) = nI d ∧ (wy_G rs x).drop i = d :: (wy_G rs x).drop (i + 1) := by
  obtain ⟨g, hg, e, hd⟩ := wc.2.2.2.2.2.1 x hx
  have hn := wc.1
  have el : (wy_G rs x).length = g := by rw [wy_G, List.length_map, List.length_range, e, cl_nI (by omega)]
  refine ⟨g, hg, e, el, fun i hi => ?_⟩
  obtain ⟨d, hdn, ed⟩ := hd i hi
  refine ⟨d, hdn, ed, ?_⟩
  rw [List.drop_eq_getElem_cons (show i < (wy_G rs x).length by omega)]
  congr 1
  simp only [wy_G, List.getElem_map, List.getElem_range, ed]
  exact cl_nI (by omega)
theorem wy_gG {n : Nat} {rs : mz_RS} {lv : Nat → Int32} (wc : mz_wc n rs lv) : wy_g n (wy_G rs) := fun x hx => by
  obtain ⟨g, hg, e, hd⟩ := wc.2.2.2.2.2.1 x hx
  have hn := wc.1
  constructor
  · rw [wy_G, List.length_map, List.length_range, e, cl_nI (by omega)]
    exact hg
  · intro y hy
    rw [wy_G, e, cl_nI (by omega)] at hy
    obtain ⟨i, hi, rfl⟩ := List.mem_map.mp hy
    obtain ⟨d, hdn, ed⟩ := hd i (List.mem_range.mp hi)
    rw [ed, cl_nI (by omega)]
    exact hdn
def wy_W (ws : List Nat) (a : Int32) (A : Nat → Int32) : Prop := a = nI ws.length ∧ ∀ i, i < ws.length → A i = nI (ws.getD i 0)
def wy_M (ws : List Nat) (M : Nat → Int32) : Prop := ∀ c, c < 40 → M c = if c ∈ ws then 1 else 0
theorem wy_Wapp {ws : List Nat} {a : Int32} {A : Nat → Int32} {g : Nat} (w : wy_W ws a A) : wy_W (ws ++ [g]) (a + 1) (upd A ws.length (nI g)) := by
  obtain ⟨w1, w2⟩ := w
  refine ⟨?_, fun i hi => ?_⟩
  · rw [w1, List.length_append, List.length_singleton]
    exact nI_add _ 1
  · rw [List.length_append, List.length_singleton] at hi
    by_cases h : i = ws.length
    · subst h
      rw [pk_us, List.getD_eq_getElem?_getD, List.getElem?_append_right (Nat.le_refl _)]
      simp
    · rw [pk_un h, w2 i (by omega), List.getD_eq_getElem?_getD, List.getD_eq_getElem?_getD, List.getElem?_append_left (by omega)]
theorem wy_Mapp {ws : List Nat} {M : Nat → Int32} {g : Nat} (w : wy_M ws M) : wy_M (ws ++ [g]) (upd M g 1) := fun c hc => by
  by_cases h : c = g
  · subst h
    rw [pk_us, if_pos (by simp)]
  · rw [pk_un h, w c hc]
    by_cases hw : c ∈ ws
    · rw [if_pos hw, if_pos (by simp [hw])]
    · rw [if_neg hw, if_neg (by simp [hw, h])]
def mz_gw (gi : Nat → Nat → Nat → Int32) (a : Int32) (A M : Nat → Int32) : Nat → Nat → Nat → Int32 := fun k i j => if k = 0 then a else if k = 5 then A i else if k = 6 then M i else gi k i j
section
variable {VB : Nat} {n m : Nat} {rs : mz_RS} {ad : mz_T → Nat} {lv : Nat → Int32} {mk : Nat → Nat} {mm : Nat → Nat → Nat × Nat} {gi : Nat → Nat → Nat → Int32} {go : Nat → Nat → Option Nat} {gj : Nat → Nat → Int64} {h : mz_H}
theorem keep15 (a : Int32) (A M : Nat → Int32) (i j k : Nat) : mz_f15 n m rs ad lv mk mm (mz_gw gi a A M) go gj i j k = mz_f15 n m rs ad lv mk mm gi go gj i j k := by
  unfold mz_f15
  by_cases hi : i < 2 ∧ j < 31 ∧ k = 0
  · rw [if_pos hi, if_pos hi]
    rcases (show i = 0 ∨ i = 1 by omega) with rfl | rfl <;> rfl
  · rw [if_neg hi, if_neg hi]
theorem keep15' (a a' : Int32) (A M A' M' : Nat → Int32) (i j k : Nat) : mz_f15 n m rs ad lv mk mm (mz_gw gi a A M) go gj i j k = mz_f15 n m rs ad lv mk mm (mz_gw gi a' A' M') go gj i j k := (keep15 ..).trans (keep15 ..).symm
theorem cw_wl {a : Int32} {A M : Nat → Int32} (hR : mz_Rp VB n m rs ad lv mk mm (mz_gw gi a A M) go gj h) (v : Int32) : ∃ h', mz_pF h (some (ad (2, 0, 0, 0))) 9 3 (.int v) = some h' ∧ mz_Rp VB n m rs ad lv mk mm (mz_gw gi v A M) go gj h' ∧ h'.2 = h.2 := by
  refine ⟨_, pF_of (cc_2 hR) (lt_rfl rfl), hR.up 2 0 0 0 (Or.inl rfl) (cb_2 hR) ?_, rfl⟩
  apply mz_hs <;> first | (exact fun _ _ _ _ => Or.inl rfl) | (exact fun _ _ _ _ => Or.inl (keep15' ..)) | skip
  intro i j k hne
  refine Or.inr (if_neg fun z => hne ⟨rfl, z⟩)
theorem cw_wa {a : Int32} {A M : Nat → Int32} (hR : mz_Rp VB n m rs ad lv mk mm (mz_gw gi a A M) go gj h) {i : Nat} (hi : i < 40) (v : Int32) : ∃ h', mz_sI h (some (ad (4, 0, 0, 0))) 0 (nI i) v = some h' ∧ mz_Rp VB n m rs ad lv mk mm (mz_gw gi a (upd A i v) M) go gj h' ∧ h'.2 = h.2 := by
  refine ⟨_, sI_of (cc_4 hR) (ix_nI hi (by omega)), hR.up 4 0 0 0 (Or.inl ?_) (cb_4 hR) ?_, rfl⟩
  · rw [cl_nI (by omega)]
    rfl
  · apply mz_hs <;> first | (exact fun _ _ _ _ => Or.inl rfl) | (exact fun _ _ _ _ => Or.inl (keep15' ..)) | skip
    intro i j k hne
    refine Or.inr (if_neg fun z => hne ⟨rfl, z⟩)
theorem cw_wm {a : Int32} {A M : Nat → Int32} (hR : mz_Rp VB n m rs ad lv mk mm (mz_gw gi a A M) go gj h) {i : Nat} (hi : i < 40) (v : Int32) : ∃ h', mz_sI h (some (ad (5, 0, 0, 0))) 2 (nI i) v = some h' ∧ mz_Rp VB n m rs ad lv mk mm (mz_gw gi a A (upd M i v)) go gj h' ∧ h'.2 = h.2 := by
  refine ⟨_, sI_of (cc_5 hR) (ix_nI hi (by omega)), hR.up 5 0 0 0 (Or.inl ?_) (cb_5 hR) ?_, rfl⟩
  · rw [cl_nI (by omega)]
    rfl
  · apply mz_hs <;> first | (exact fun _ _ _ _ => Or.inl rfl) | (exact fun _ _ _ _ => Or.inl (keep15' ..)) | skip
    intro i j k hne
    refine Or.inr (if_neg fun z => hne ⟨rfl, z⟩)
end
/-- the class stands with way ws -/
def wy_C (VB n m : Nat) (rs : mz_RS) (ad : mz_T → Nat) (lv : Nat → Int32) (mk : Nat → Nat) (mm : Nat → Nat → Nat × Nat) (gi : Nat → Nat → Nat → Int32) (go : Nat → Nat → Option Nat) (gj : Nat → Nat → Int64) (sz : Nat) (ws : List Nat) (h : mz_H) : Prop := ∃ a A M, mz_Rp VB n m rs ad lv mk mm (mz_gw gi a A M) go gj h ∧ wy_W ws a A ∧ wy_M ws M ∧ h.2 = sz
section
variable {VB : Nat} {n m : Nat} {rs : mz_RS} {ad : mz_T → Nat} {lv : Nat → Int32} {mk : Nat → Nat} {mm : Nat → Nat → Nat × Nat} {gi : Nat → Nat → Nat → Int32} {go : Nat → Nat → Option Nat} {gj : Nat → Nat → Int64} {h : mz_H}
theorem cs_meet0 {sz : Nat} {ws : List Nat} (C : wy_C VB n m rs ad lv mk mm gi go gj sz ws h) (hn : n ≤ 40) {g : Nat} (hg : g < n) (hw : g ∈ ws) : fn_X10_meet h (some (ad (2, 0, 0, 0))) (nI g) = some (0, h, 0, 0) := by
  obtain ⟨a, A, M, hR, w, wM, -⟩ := C
  have e : mz_gw gi a A M 6 g 0 = 1 := (wM g (by omega)).trans (if_pos hw)
  simp only [fn_X10_meet, ci_2 hR, cs_typeOf hR hn hg, if_neg smn, cg_2_4 hR, ca_5 hR, ix_nI (show g < 40 by omega) (show 40 < 2 ^ 31 by omega), cl_nI (show g < 2 ^ 31 by omega), e, if_neg one0, zo_s, zc_t, zl_0, zr_e, z_0, z_1, if_true]
theorem cs_meet1 {sz : Nat} {ws : List Nat} (C : wy_C VB n m rs ad lv mk mm gi go gj sz ws h) (hn : n ≤ 40) {g : Nat} (hg : g < n) (hw : ¬ g ∈ ws) (hl : ws.length < 40) : ∃ h', fn_X10_meet h (some (ad (2, 0, 0, 0))) (nI g) = some (1, h', 0, 0) ∧ wy_C VB n m rs ad lv mk mm gi go gj sz (ws ++ [g]) h' := by
  obtain ⟨a, A, M, hR, w, wM, hsz⟩ := C
  have e : mz_gw gi a A M 6 g 0 = 0 := (wM g (by omega)).trans (if_neg hw)
  have ea : mz_gw gi a A M 0 0 0 = nI ws.length := w.1
  obtain ⟨h1, e1, R1, s1⟩ := cw_wm hR (show g < 40 by omega) 1
  obtain ⟨h2, e2, R2, s2⟩ := cw_wa R1 hl (nI g)
  obtain ⟨h3, e3, R3, s3⟩ := cw_wl R2 (a + 1)
  have ea1 : mz_gw gi a A (upd M g 1) 0 0 0 = nI ws.length := w.1
  have ea2 : mz_gw gi a (upd A ws.length (nI g)) (upd M g 1) 0 0 0 = nI ws.length := w.1
  have l40 : nI ws.length < Int32.ofNat 40 := nI_lt hl (show 40 < 2 ^ 31 by omega)
  have z11 : (1 : Int32) &&& 1 = 1 := by decide
  rw [w.1] at e3
  refine ⟨h3, ?_, a + 1, _, _, R3, wy_Wapp w, wy_Mapp wM, by omega⟩
  simp only [fn_X10_meet, ci_2 hR, cs_typeOf hR hn hg, if_neg smn, cg_2_4 hR, ca_5 hR, ix_nI (show g < 40 by omega) (show 40 < 2 ^ 31 by omega), cl_nI (show g < 2 ^ 31 by omega), e, cg_2_3 hR, ea, cg_2_2 hR, cl_4a hR, if_pos l40, z11, e1, cg_2_2 R1, cg_2_3 R1, ea1, e2, cg_2_3 R2, ea2, e3, zo_s, zc_t, zl_0, zr_e, z_0, z_1, if_true]
  rfl
end

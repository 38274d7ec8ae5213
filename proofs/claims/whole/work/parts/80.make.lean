/-! make: the classes start; the slots of a new thing -/
section
variable {VB : Nat} {n m : Nat} {rs : mz_RS} {ad : mz_T → Nat} {lv : Nat → Int32} {mk : Nat → Nat} {mm : Nat → Nat → Nat × Nat} {gi : Nat → Nat → Nat → Int32} {go : Nat → Nat → Option Nat} {gj : Nat → Nat → Int64} {h : mz_H}
theorem cw_started (hR : mz_Rp VB n m rs ad lv mk mm gi go gj h) {c : Nat} (hc : c < n) (v : Int32) : ∃ h', mz_pF h (some (ad (6, c, 0, 0))) 8 10 (.int v) = some h' ∧ mz_Rp VB n m (mz_sa rs 14 c v) ad lv mk mm gi go gj h' ∧ h'.2 = h.2 := by
  refine ⟨_, pF_of (cc_6 hR hc) (lt_rfl rfl), hR.up 6 c 0 0 (Or.inl ?_) (cb_6 hR hc) ?_, rfl⟩
  · show mz_f6 n m (mz_sa rs 14 c v) ad lv mk mm gi go gj c 0 0 = _
    rw [mz_f6, if_pos ⟨hc, rfl, rfl⟩]
    rw [show (mz_sa rs 14 c v).2.1 14 c = v from pk_us]
    rfl
  · apply mz_hs <;> first | (exact fun _ _ _ _ => Or.inl rfl) | skip
    intro i' j' k' hne
    refine Or.inl ?_
    unfold mz_f6
    by_cases hq : i' < n ∧ j' = 0 ∧ k' = 0
    · rw [if_pos hq, if_pos hq]
      have hic : i' ≠ c := fun e => hne ⟨rfl, e, hq.2.1, hq.2.2⟩
      rw [show (mz_sa rs 14 c v).2.1 14 i' = rs.2.1 14 i' from pk_un hic]
      rfl
    · rw [if_neg hq, if_neg hq]
/-- both sides let a class and all above it start -/
theorem ok_start (wc : mz_wc n rs lv) : ∀ (L c i f g : Nat) (h : mz_H) (F : Nat → Int32), c < n → L < 8 → lv c = nI L → i + L ≤ 7 → L + 1 < f → L + 1 < g → mz_Rp VB n m (mz_qa rs 14 F) ad lv mk mm gi go gj h → ∃ (h' : mz_H) (F' : Nat → Int32), fn_X10_start_b4 f h (some (ad (2, 0, 0, 0))) (nI c) (nI i) = some ((), h', 0, 0) ∧ (∀ (q sz : Nat) (x : Int32) (rs' : mz_RS), rs'.2.1 4 = rs.2.1 4 → ∃ g', fn_X12_make_b56 g (mz_RH q sz (mz_qa rs' 14 F)) (some q) x (nI c) = fn_X12_make_b56 (g' + 1) (mz_RH q sz (mz_qa rs' 14 F')) (some q) x (-9)) ∧ mz_Rp VB n m (mz_qa rs 14 F') ad lv mk mm gi go gj h' ∧ h'.2 = h.2 ∧ ∀ c', F' c' = F c' ∨ (c' < n ∧ F' c' = 1) := by
  have hn := wc.1
  intro L
  induction L with
  | zero =>
    intro c i f g h F hc hL el hi hf hg hR
    obtain ⟨f, rfl⟩ : ∃ g', f = g' + 1 + 1 := ⟨f - 2, by omega⟩
    obtain ⟨g, rfl⟩ : ∃ g', g = g' + 1 + 1 := ⟨g - 2, by omega⟩
    rcases wy_up wc hc hL el with ⟨-, e⟩ | ⟨p, L', hz, -⟩
    · obtain ⟨h1, k1, R1, s1⟩ := cw_started hR hc 1
      rw [qa_s] at R1
      have n7 : ¬ (7 : Int32) < nI i := nI_nlt (a := 7) (by omega) (by omega)
      have e4 : (mz_qa rs 14 (upd F c 1)).2.1 4 c = -9 := e
      have T := cs_typeOf_no R1 (c := -9) (Or.inl (by decide))
      have z11 : (1 : Int32) &&& 1 = 1 := by decide
      refine ⟨h1, upd F c 1, ?_, fun q sz x rs' e' => ⟨g, ?_⟩, R1, s1, fun c' => ?_⟩
      · by_cases n8 : (7 : Int32) < nI i + 1
        · simp only [fn_X10_start_b4, if_neg n7, ci_2 hR, cs_typeOf hR hn hc, if_neg smn, cg_2_0 hR, ca_3 hR, ix_nI (show c < 40 by omega) (show 40 < 2 ^ 31 by omega), cl_nI (show c < 2 ^ 31 by omega), if_pos hc, k1, cg_2_0 R1, ca_3 R1, cg_6_1 R1 hc, e4, if_pos n8, zo_s, zc_t, zl_0, zr_e, z_0, z_1, if_true]
        · simp only [fn_X10_start_b4, if_neg n7, ci_2 hR, cs_typeOf hR hn hc, if_neg smn, cg_2_0 hR, ca_3 hR, ix_nI (show c < 40 by omega) (show 40 < 2 ^ 31 by omega), cl_nI (show c < 2 ^ 31 by omega), if_pos hc, k1, cg_2_0 R1, ca_3 R1, cg_6_1 R1 hc, e4, if_neg n8, ci_2 R1, T, zo_s, zc_t, zl_0, zr_e, z_0, z_1, if_true]
      · have e5 : (mz_qa rs' 14 (upd F c 1)).2.1 4 c = -9 := by
          show rs'.2.1 4 c = -9
          rw [e']
          exact e
        rw [fn_X12_make_b56]
        simp only [if_neg (nI_ne9 (show c < 2 ^ 31 by omega)), rr_14, rw_14, rr_4, ra_4, ix_nI (show c < 40 by omega) (show 40 < 2 ^ 31 by omega), cl_nI (show c < 2 ^ 31 by omega), z11, qa_s, e5, zo_s, if_true]
      · by_cases hcc : c' = c
        · subst hcc
          exact Or.inr ⟨hc, pk_us⟩
        · exact Or.inl (pk_un hcc)
    · omega
  | succ L ih =>
    intro c i f g h F hc hL el hi hf hg hR
    obtain ⟨f, rfl⟩ : ∃ g', f = g' + 1 := ⟨f - 1, by omega⟩
    obtain ⟨g, rfl⟩ : ∃ g', g = g' + 1 := ⟨g - 1, by omega⟩
    rcases wy_up wc hc hL el with ⟨hz, -⟩ | ⟨p, L', hz, hp, e, el'⟩
    · omega
    · obtain rfl : L' = L := by omega
      obtain ⟨h1, k1, R1, s1⟩ := cw_started hR hc 1
      rw [qa_s] at R1
      have n7 : ¬ (7 : Int32) < nI i := nI_nlt (a := 7) (by omega) (by omega)
      have e4 : (mz_qa rs 14 (upd F c 1)).2.1 4 c = nI p := e
      have z11 : (1 : Int32) &&& 1 = 1 := by decide
      obtain ⟨h2, F2, i1, i2, R2, s2, x2⟩ := ih p (i + 1) f g h1 (upd F c 1) (by omega) (by omega) el' (by omega) (by omega) (by omega) R1
      rw [show nI (i + 1) = nI i + 1 from (nI_add i 1).symm] at i1
      refine ⟨h2, F2, ?_, fun q sz x rs' e' => ?_, R2, by omega, fun c' => ?_⟩
      · simp only [fn_X10_start_b4, if_neg n7, ci_2 hR, cs_typeOf hR hn hc, if_neg smn, cg_2_0 hR, ca_3 hR, ix_nI (show c < 40 by omega) (show 40 < 2 ^ 31 by omega), cl_nI (show c < 2 ^ 31 by omega), if_pos hc, k1, cg_2_0 R1, ca_3 R1, cg_6_1 R1 hc, e4, i1, zo_s, zc_t, zl_0, if_true]
      · obtain ⟨g2, i3⟩ := i2 q sz x rs' e'
        refine ⟨g2, ?_⟩
        have e5 : (mz_qa rs' 14 (upd F c 1)).2.1 4 c = nI p := by
          show rs'.2.1 4 c = nI p
          rw [e']
          exact e
        rw [fn_X12_make_b56]
        simp only [if_neg (nI_ne9 (show c < 2 ^ 31 by omega)), rr_14, rw_14, rr_4, ra_4, ix_nI (show c < 40 by omega) (show 40 < 2 ^ 31 by omega), cl_nI (show c < 2 ^ 31 by omega), z11, qa_s, e5, i3, zo_s, if_true]
      · rcases x2 c' with z | z
        · by_cases hcc : c' = c
          · subst hcc
            exact Or.inr ⟨hc, by rw [z]; exact pk_us⟩
          · exact Or.inl (by rw [z]; exact pk_un hcc)
        · exact Or.inr z
theorem wc_start (wc : mz_wc n rs lv) {F : Nat → Int32} (hF : ∀ c, F c = rs.2.1 14 c ∨ (c < n ∧ F c = 1)) : mz_wc n (mz_qa rs 14 F) lv := by
  obtain ⟨a1, a2, a3, a4, a5, a6, a7, a8, a9, a10, a11, a12⟩ := wc
  refine ⟨a1, a2, a3, a4, a5, a6, a7, fun c hc => ⟨(a8 c hc).1, (a8 c hc).2.1, (a8 c hc).2.2.1, ?_⟩, a9, a10, a11, fun c hc => ?_⟩
  · show F c = 0
    rcases hF c with z | ⟨z, -⟩
    · rw [z]; exact (a8 c hc).2.2.2
    · omega
  · show F c = 0 ∨ F c = 1
    rcases hF c with z | ⟨-, z⟩
    · rw [z]; exact a12 c hc
    · exact Or.inr z
end
/-- a slot as an entry makes it -/
def sn_R (nm ln dp ma : Int32) (b e : Nat) (h : mz_H) : Prop := b + 1 ≤ e ∧ h.1 b = some (.inr (5, [.int nm, .int ln, .int dp, .int ma, va_rf (if dp = 0 then some (b + 1) else none), .null])) ∧ (dp = 0 → b + 3 ≤ e ∧ h.1 (b + 1) = some (.inr (4, [.ref (b + 2)])) ∧ h.1 (b + 2) = some (.inl (1, 1, .inr (.inl (fun c => if c < 1 then mz_z8 ln else 0)))))
theorem sn_R.ext {nm ln dp ma : Int32} {b e : Nat} {h h' : mz_H} (R : sn_R nm ln dp ma b e h) (hx : ∀ a, b ≤ a → a < e → h'.1 a = h.1 a) : sn_R nm ln dp ma b e h' := by
  obtain ⟨r0, r1, r2⟩ := R
  refine ⟨r0, by rw [hx _ (by omega) (by omega)]; exact r1, fun h1 => ?_⟩
  obtain ⟨a1, a2, a3⟩ := r2 h1
  exact ⟨a1, by rw [hx _ (by omega) (by omega)]; exact a2, by rw [hx _ (by omega) (by omega)]; exact a3⟩
theorem cs_slotNew (h0 : mz_H) {ea : Nat} {nm x1 x2 ln dp ma x6 x7 : Int32} (ce : h0.1 ea = some (.inr (1, [.int nm, .int x1, .int x2, .int ln, .int dp, .int ma, .int x6, .int x7]))) (le : ea < h0.2) : ∃ (h' : mz_H) (kk nn : Nat), fn_X6_init (mz_nw h0 (.inr (5, [.int 0, .int 0, .int 0, .int 0, .null, .null]))) (some h0.2) (some ea) = some ((), h', kk, nn) ∧ sn_R nm ln dp ma h0.2 h'.2 h' ∧ h'.2 ≤ h0.2 + 3 ∧ kk ≤ 2 ∧ nn ≤ 2 ∧ ∀ a, a < h0.2 → h'.1 a = h0.1 a := by
  have ne : ea ≠ h0.2 := by omega
  have t0 := (nw_ne h0 (.inr (5, [.int 0, .int 0, .int 0, .int 0, .null, .null])) ne).trans ce
  obtain ⟨h1, k1, s1, d1, o1⟩ := pF_ex (k := 0) (v := .int nm) (nw_at h0 (.inr (5, [.int 0, .int 0, .int 0, .int 0, .null, .null]))) (lt_rfl rfl)
  have t1 := (o1 _ ne).trans t0
  obtain ⟨h2, k2, s2, d2, o2⟩ := pF_ex (k := 1) (v := .int ln) d1 (lt_rfl rfl)
  have t2 := (o2 _ ne).trans t1
  obtain ⟨h3, k3, s3, d3, o3⟩ := pF_ex (k := 2) (v := .int dp) d2 (lt_rfl rfl)
  have t3 := (o3 _ ne).trans t2
  obtain ⟨h4, k4, s4, d4, o4⟩ := pF_ex (k := 3) (v := .int ma) d3 (lt_rfl rfl)
  have z1 : h1.2 = h0.2 + 1 := s1
  have z4 : h4.2 = h0.2 + 1 := by omega
  have old : ∀ a, a < h0.2 → h4.1 a = h0.1 a := fun a ha => by rw [o4 _ (by omega), o3 _ (by omega), o2 _ (by omega), o1 _ (by omega), nw_ne _ _ (by omega)]
  have f0 : mz_fI (mz_nw h0 (.inr (5, [.int 0, .int 0, .int 0, .int 0, .null, .null]))) (some ea) 1 0 = some nm := fI_of t0 rfl
  have f1 : mz_fI h1 (some ea) 1 3 = some ln := fI_of t1 rfl
  have f2 : mz_fI h2 (some ea) 1 4 = some dp := fI_of t2 rfl
  have f3 : mz_fI h3 (some ea) 1 5 = some ma := fI_of t3 rfl
  have f4 : mz_fI h4 (some h0.2) 5 2 = some dp := fI_of d4 rfl
  by_cases hd : dp = 0
  · obtain ⟨h5, k5, s5, e5, g5, o5⟩ := cs_rowNew h4 ln (N := 1) (by omega)
    have k5' : fn_X5_init (mz_nw h4 (.inr (4, [.null]))) (some h4.2) 1 ln = some ((), h5, 1, 1) := k5
    have f5 : mz_fI (mz_nw h4 (.inr (4, [.null]))) (some h0.2) 5 1 = some ln := fI_of ((nw_ne _ _ (by omega)).trans d4) rfl
    obtain ⟨h6, k6, s6, e6, o6⟩ := pF_ex (k := 4) (v := va_rf (some h4.2)) ((o5 _ (by omega)).trans d4) (lt_rfl rfl)
    refine ⟨h6, 2, 2, ?_, ⟨by omega, ?_, fun _ => ⟨by omega, ?_, ?_⟩⟩, by omega, by omega, by omega, fun a ha => ?_⟩
    · simp only [fn_X6_init, Option.isSome, f0, k1, f1, k2, f2, k3, f3, k4, f4, if_pos hd, zn_o, f5, is_of (nw_at h4 (.inr (4, [.null]))), k5', k6, zl_s, za_s, zo_s, zc_t, zl_0, zr_e, z_0, z_1, if_true]
    · rw [if_pos hd, e6, z4]
      rfl
    · rw [o6 _ (by omega), ← z4, e5, z4]
    · rw [o6 _ (by omega), show h0.2 + 2 = h4.2 + 1 by omega, g5]
    · rw [o6 _ (by omega), o5 _ (by omega), old a ha]
  · refine ⟨h4, 0, 0, ?_, ⟨by omega, ?_, fun z => absurd z hd⟩, by omega, by omega, by omega, old⟩
    · simp only [fn_X6_init, Option.isSome, f0, k1, f1, k2, f2, k3, f3, k4, f4, if_neg hd, zo_s, zc_t, zl_0, zr_e, z_0, z_1, if_true]
    · rw [if_neg hd]
      exact d4
section
variable {VB : Nat} {n m : Nat} {rs : mz_RS} {ad : mz_T → Nat} {lv : Nat → Int32} {mk : Nat → Nat} {mm : Nat → Nat → Nat × Nat} {gi : Nat → Nat → Nat → Int32} {go : Nat → Nat → Option Nat} {gj : Nat → Nat → Int64} {hb : mz_H}
/-- the slots of a new thing from the draft's entries (names Ns) -/
theorem cs_slotsNew (hR : mz_Rp VB n m rs ad lv mk mm gi go gj hb) {Ns : List Nat} (hN : Ns.length ≤ 16) (hm : ∀ k ∈ Ns, k < 31) (hG : ∀ i, i < Ns.length → go 1 i = Ns[i]?) (g0 : gi 1 0 0 = nI Ns.length) {a1 : Nat} (ha1 : hb.2 ≤ a1) (x : Int32) : ∀ (rest pre : List Nat) (f : Nat) (h : mz_H) (bs : Nat → Nat), Ns = pre ++ rest → rest.length < f → mz_xt hb h → a1 + 2 ≤ bs 0 → bs pre.length = h.2 → (∀ s, s < pre.length → bs s ≤ bs (s + 1)) → (∀ s kk, s < pre.length → Ns[s]? = some kk → sn_R (nI kk) (gi 3 kk 3) (gi 3 kk 4) (gi 3 kk 5) (bs s) (bs (s + 1)) h) → h.1 a1 = some (.inr (7, [.int x, .ref (a1 + 1)])) → h.1 (a1 + 1) = some (.inl (15, Ns.length, .inr (.inr (.inr (.inr (fun c => if c < pre.length then some (bs c) else none)))))) → ∃ (h' : mz_H) (bs' : Nat → Nat) (kk nn : Nat), fn_X8_init_b22 f h (some a1) (some (ad (12, 1, 0, 0))) (nI pre.length) = some ((), h', kk, nn) ∧ kk ≤ 3 * rest.length ∧ nn ≤ 8 * rest.length ∧ h'.2 ≤ h.2 + 3 * rest.length ∧ h.2 ≤ h'.2 ∧ (∀ a, a < h.2 → a ≠ a1 + 1 → h'.1 a = h.1 a) ∧ a1 + 2 ≤ bs' 0 ∧ bs' Ns.length = h'.2 ∧ (∀ s, s < Ns.length → bs' s ≤ bs' (s + 1)) ∧ (∀ s kk, s < Ns.length → Ns[s]? = some kk → sn_R (nI kk) (gi 3 kk 3) (gi 3 kk 4) (gi 3 kk 5) (bs' s) (bs' (s + 1)) h') ∧ h'.1 (a1 + 1) = some (.inl (15, Ns.length, .inr (.inr (.inr (.inr (fun c => if c < Ns.length then some (bs' c) else none)))))) := by
  have lN : Ns.length < 2 ^ 31 := by omega
  intro rest
  induction rest with
  | nil =>
    intro pre f h bs e hf hx hb0 hbi hbm hS c1 c2
    obtain ⟨f, rfl⟩ : ∃ g', f = g' + 1 := ⟨f - 1, by omega⟩
    rw [List.append_nil] at e
    subst e
    have g1 : mz_fR h (some a1) 7 1 = some (some (a1 + 1)) := fR_of (r := some (a1 + 1)) c1 rfl
    exact ⟨h, bs, 0, 0, by simp only [fn_X8_init_b22, g1, len_of c2, if_pos (Int32.le_refl _), zo_s, zc_t, zl_0, zr_e, z_0, z_1, if_true], by omega, by omega, by omega, by omega, fun _ _ _ => rfl, hb0, hbi, hbm, hS, c2⟩
  | cons k rest ih =>
    intro pre f h bs e hf hx hb0 hbi hbm hS c1 c2
    have hf' : rest.length + 1 < f := hf
    obtain ⟨f, rfl⟩ : ∃ g', f = g' + 1 := ⟨f - 1, by omega⟩
    have hlen : Ns.length = pre.length + (rest.length + 1) := by rw [e, List.length_append]; rfl
    have hi : pre.length < Ns.length := by omega
    have hk : k < 31 := hm k (by rw [e]; simp)
    have hg : Ns[pre.length]? = some k := by rw [e]; simp
    have ng := nI_ge hi lN
    have hx1 := hx.1
    have mo := bs_mono hbm
    have g1 : mz_fR h (some a1) 7 1 = some (some (a1 + 1)) := fR_of (r := some (a1 + 1)) c1 rfl
    have b12 := cb_12 hR (i := 1) (by omega)
    have b14 := cb_14 hR (i := 1) (by omega)
    have b15 := cb_15 hR (i := 1) (by omega) hk
    have c12 : h.1 (ad (12, 1, 0, 0)) = _ := (hx.2 _ b12).trans (cc_12 hR (by omega))
    have c14 : h.1 (ad (14, 1, 0, 0)) = _ := (hx.2 _ b14).trans (cc_14 hR (by omega))
    have c15 : h.1 (ad (15, 1, k, 0)) = _ := (hx.2 _ b15).trans (cc_15 hR (by omega) hk)
    have EA : fn_X7_entryAt (mz_nw h (.inr (5, [.int 0, .int 0, .int 0, .int 0, .null, .null]))) (some (ad (12, 1, 0, 0))) (nI pre.length) = some (some (ad (15, 1, k, 0)), mz_nw h (.inr (5, [.int 0, .int 0, .int 0, .int 0, .null, .null])), 0, 0) := by
      have q12 := (nw_ne h (.inr (5, [.int 0, .int 0, .int 0, .int 0, .null, .null])) (show ad (12, 1, 0, 0) ≠ h.2 by omega)).trans c12
      have q14 := (nw_ne h (.inr (5, [.int 0, .int 0, .int 0, .int 0, .null, .null])) (show ad (14, 1, 0, 0) ≠ h.2 by omega)).trans c14
      have u2 : mz_fI (mz_nw h (.inr (5, [.int 0, .int 0, .int 0, .int 0, .null, .null]))) (some (ad (12, 1, 0, 0))) 6 2 = some (nI Ns.length) := fI_of q12 (by rw [if_neg (show ¬ (1 : Nat) = 0 by omega), g0]; rfl)
      have u1 : mz_fR (mz_nw h (.inr (5, [.int 0, .int 0, .int 0, .int 0, .null, .null]))) (some (ad (12, 1, 0, 0))) 6 1 = some (some (ad (14, 1, 0, 0))) := fR_of (r := some (ad (14, 1, 0, 0))) q12 rfl
      have u3 : mz_aR (mz_nw h (.inr (5, [.int 0, .int 0, .int 0, .int 0, .null, .null]))) (some (ad (14, 1, 0, 0))) 11 (nI pre.length) = some (some (ad (15, 1, k, 0))) := by
        simp only [mz_aR, mz_ar, q14, if_true, ix_nI (show pre.length < 31 by omega) (show 31 < 2 ^ 31 by omega), cl_nI (show pre.length < 2 ^ 31 by omega), hG _ hi, hg, Option.map]
      simp only [fn_X7_entryAt, if_neg (nI_pos (show pre.length < 2 ^ 31 by omega)), u2, if_neg ng, u1, u3, zo_s, zc_t, zl_0, zr_e, z_0, z_1, if_true]
    obtain ⟨h1, kk1, nn1, k1, R1, z1, z2, z3, o1⟩ := cs_slotNew h c15 (by omega)
    have r0 := R1.1
    have c2' : h1.1 (a1 + 1) = _ := (o1 _ (by have := mo pre.length 0 (by omega); rw [Nat.zero_add] at this; omega)).trans c2
    obtain ⟨h2, k2, s2, d2, o2⟩ := sR_ex (j := pre.length) (v := some h.2) c2' hi lN (by simp only [is_of R1.2.1, Bool.or_true])
    have b0i := mo pre.length 0 (by omega)
    rw [Nat.zero_add] at b0i
    have ef : (va_up (fun c => if c < pre.length then some (bs c) else none) pre.length (some h.2)) = (fun c => if c < pre.length + 1 then some (va_up (va_up bs pre.length h.2) (pre.length + 1) h2.2 c) else none) := funext fun c => by
      by_cases hc : c = pre.length
      · subst hc
        rw [va_up_self, if_pos (Nat.lt_succ_self _), va_up_ne _ _ (by omega), va_up_self]
      · rw [va_up_ne _ _ hc]
        by_cases hci : c < pre.length
        · rw [if_pos hci, if_pos (by omega), va_up_ne _ _ (by omega), va_up_ne _ _ hc]
        · rw [if_neg hci, if_neg (by omega)]
    rw [ef] at d2
    have bb : ∀ s, s ≤ pre.length → va_up (va_up bs pre.length h.2) (pre.length + 1) h2.2 s = bs s := fun s hs => by
      rw [va_up_ne _ _ (by omega)]
      by_cases hsi : s = pre.length
      · subst hsi
        rw [va_up_self, hbi]
      · rw [va_up_ne _ _ hsi]
    have be : va_up (va_up bs pre.length h.2) (pre.length + 1) h2.2 (pre.length + 1) = h2.2 := va_up_self _ _ _
    have el : (pre ++ [k]).length = pre.length + 1 := by simp
    have I := ih (pre ++ [k]) f h2 (va_up (va_up bs pre.length h.2) (pre.length + 1) h2.2) (by rw [e]; simp) (by omega) ⟨by omega, fun a ha => by rw [o2 _ (by omega), o1 _ (by omega), hx.2 a ha]⟩ (by rw [bb 0 (by omega)]; exact hb0) (by rw [el]; exact be) (fun s hs => by
      rw [el] at hs
      rcases (show s = pre.length ∨ s < pre.length by omega) with rfl | q
      · rw [be, bb pre.length (by omega), hbi]
        omega
      · rw [bb s (by omega), bb (s + 1) (by omega)]
        exact hbm s q) (fun s kk hs hkk => by
      rw [el] at hs
      rcases (show s = pre.length ∨ s < pre.length by omega) with rfl | q
      · rw [hg] at hkk
        cases hkk
        rw [be, bb pre.length (by omega), hbi, s2]
        exact R1.ext fun a h1 h2 => o2 a (by omega)
      · rw [bb s (by omega), bb (s + 1) (by omega)]
        have m1 := mo s 0 (by omega)
        rw [Nat.zero_add] at m1
        have m2 := mo (pre.length - (s + 1)) (s + 1) (by omega)
        rw [Nat.add_sub_cancel' (by omega : s + 1 ≤ pre.length)] at m2
        refine (hS s kk q hkk).ext fun a h1 h2 => ?_
        rw [o2 a (by omega), o1 a (by omega)]) ((o2 _ (by omega)).trans ((o1 _ (by omega)).trans c1)) (by rw [el]; exact d2)
    rw [el, show nI (pre.length + 1) = nI pre.length + 1 from (nI_add _ 1).symm] at I
    obtain ⟨h', bs', kk, nn, k3, r1, r2, r3, r4, r5, r6⟩ := I
    refine ⟨h', bs', kk + kk1 + 1, nn + nn1 + 6, ?_, by show _ ≤ 3 * (rest.length + 1); omega, by show _ ≤ 8 * (rest.length + 1); omega, by show _ ≤ _ + 3 * (rest.length + 1); omega, by omega, fun a ha hne => ?_, r6⟩
    · have i12 : mz_is (mz_nw h (.inr (5, [.int 0, .int 0, .int 0, .int 0, .null, .null]))) (some (ad (12, 1, 0, 0))) 6 = true := is_of ((nw_ne h _ (show ad (12, 1, 0, 0) ≠ h.2 by omega)).trans c12)
      simp only [fn_X8_init_b22, g1, len_of c2, if_neg ng, zn_o, i12, EA, is_of (nw_at h (.inr (5, [.int 0, .int 0, .int 0, .int 0, .null, .null]))), k1, k2, k3, zl_s, za_s, zo_s, zc_t, zl_0]
    · rw [r5 a (by omega) hne, o2 _ hne, o1 _ ha]
end

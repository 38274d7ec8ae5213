/-! the reference makes a table: the whole of it; scan -/
section
variable {n m : Nat} {rs : mz_RS} {lv : Nat → Int32} {mk : Nat → Nat} {mm : Nat → Nat → Nat × Nat}
variable {a : Int32} {A B C : Nat → Int32}
theorem rs_names (q sz : Nat) (wc : mz_wc n rs lv) (wm : mz_wm n rs mk mm) {ws : List Nat} (hw : ∀ y, y ∈ ws → y < n) (hl : ws.length ≤ 40) (W : wy_W ws a A) {Ns : List Nat} (hNs : Ns = tb_N (tb_f rs 3 0 ws) 31) (hS : ∀ k, k < 31 → tb_f rs 6 6 ws k = []) : ∀ (d k f : Nat) (M : Nat → Int32), k + d = 31 → d < f → en_N rs (tb_f rs 3 0 ws) (tb_N (tb_f rs 3 0 ws) k) M → (∀ k', k' < k → tb_uu rs k' (tb_f rs 3 0 ws k') = -9) → ∃ r nm cl ot cnt M', fn_X12_makeTable_b45 f (mz_RH q sz (mz_mt (mz_wy rs a A B C) 0 (-9) (-9) (-9) (nI (tb_N (tb_f rs 3 0 ws) k).length) M)) (some q) 1 (nI k) = some ((), mz_RH q sz (mz_mt (mz_wy rs a A B C) r nm cl ot (nI cnt) M'), 0, 0) ∧ tb_O rs (tb_f rs 3 0 ws) (tb_f rs 6 6 ws) Ns r nm cl ot cnt ∧ (cnt ≠ 0 → en_N rs (tb_f rs 3 0 ws) Ns M') := by
  intro d
  induction d with
  | zero =>
    intro k f M hk hf hM hU
    obtain ⟨f, rfl⟩ : ∃ g', f = g' + 1 := ⟨f - 1, by omega⟩
    have e : k = 31 := by omega
    have hlen : Ns.length ≤ 31 := by rw [hNs]; exact tb_N_len _ 31
    have hmm : ∀ x ∈ Ns, x < 31 ∧ tb_f rs 3 0 ws x ≠ [] := by rw [hNs]; exact tb_N_mem _ 31
    rw [e] at hM hU ⊢
    rw [← hNs] at hM ⊢
    have e0 : fn_X12_makeTable_b45 (f + 1) (mz_RH q sz (mz_mt (mz_wy rs a A B C) 0 (-9) (-9) (-9) (nI Ns.length) M)) (some q) 1 (nI 31) = fn_X12_makeTable_b72 1001 (mz_RH q sz (mz_mt (mz_wy rs a A B C) 0 (-9) (-9) (-9) (nI Ns.length) M)) (some q) 1 (nI 0) (nI ([] : List Nat).length) := by
      rw [fn_X12_makeTable_b45, if_pos (show (31 : Int32) ≤ nI 31 from Int32.le_refl _)]
      rfl
    clear hNs
    rcases rs_second (a := a) (A := A) (B := B) (C := C) (r := 0) (nm := -9) (cl := -9) (ot := -9) q sz hlen hmm hM Ns [] 0 1001 rfl (by omega) (by omega) with ⟨y, k1⟩ | ⟨k0, y, k1⟩
    · exact ⟨0, -9, -9, -9, Ns.length, M, e0.trans k1, Or.inr (Or.inr (Or.inr ⟨hS, hU, y, rfl, rfl, rfl, rfl, rfl⟩)), fun _ => hM⟩
    · exact ⟨3, nI k0, _, -9, 0, M, e0.trans k1, Or.inr (Or.inr (Or.inl ⟨hS, hU, k0, y, rfl, rfl, rfl, rfl, rfl⟩)), fun z => absurd rfl z⟩
  | succ d ih =>
    intro k f M hk hf hM hU
    obtain ⟨f, rfl⟩ : ∃ g', f = g' + 1 := ⟨f - 1, by omega⟩
    have ng : ¬ (31 : Int32) ≤ nI k := nI_ge (b := 31) (by omega) (by omega)
    have hlk := tb_N_len (tb_f rs 3 0 ws) k
    rcases rs_enter (B := B) (C := C) (r := 0) (nm := -9) (cl := -9) (ot := -9) q sz wc wm (show k < 31 by omega) (show (tb_N (tb_f rs 3 0 ws) k).length ≤ 30 by omega) hw hl W M with ⟨M1, k1, u1, v1, w1⟩ | ⟨M1, k1, u1⟩
    · have eN : (tb_N (tb_f rs 3 0 ws) (k + 1)).length = (tb_N (tb_f rs 3 0 ws) k).length + if (tb_f rs 3 0 ws k).isEmpty then 0 else 1 := by
        rw [tb_N, List.length_append]
        split <;> rfl
      have I := ih (k + 1) f M1 (by omega) (by omega) (fun i kk hi x hx => ?_) (fun k' hk' => by
        rcases (show k' = k ∨ k' < k by omega) with rfl | z
        · exact u1
        · exact hU k' z)
      · rw [eN, show nI (k + 1) = nI k + 1 from (nI_add k 1).symm] at I
        obtain ⟨r, nm, cl, ot, cnt, M', i1, i2⟩ := I
        refine ⟨r, nm, cl, ot, cnt, M', ?_, i2⟩
        rw [fn_X12_makeTable_b45]
        simp only [if_neg ng, if_neg one0, mz_RH_is, k1, i1, zo_s, zc_t, zl_0]
      · rw [tb_N] at hi
        by_cases hil : i < (tb_N (tb_f rs 3 0 ws) k).length
        · rw [List.getElem?_append_left hil] at hi
          rw [w1 _ (by omega)]
          exact hM i kk hi x hx
        · rw [List.getElem?_append_right (by omega)] at hi
          cases he : (tb_f rs 3 0 ws k).isEmpty with
          | true =>
            rw [he] at hi
            cases hi
          | false =>
            rw [he] at hi
            have hi0 : i - (tb_N (tb_f rs 3 0 ws) k).length = 0 := by
              rcases Nat.eq_zero_or_pos (i - (tb_N (tb_f rs 3 0 ws) k).length) with z | z
              · exact z
              · have : ([k] : List Nat)[i - (tb_N (tb_f rs 3 0 ws) k).length]? = none := List.getElem?_eq_none (by show 1 ≤ _; omega)
                have hi' : ([k] : List Nat)[i - (tb_N (tb_f rs 3 0 ws) k).length]? = some kk := hi
                rw [this] at hi'
                cases hi'
            rw [hi0] at hi
            have hkk : k = kk := by
              have hi' : ([k] : List Nat)[0]? = some kk := hi
              simpa using hi'
            subst hkk
            have ei : i = (tb_N (tb_f rs 3 0 ws) k).length := by omega
            rw [ei]
            exact v1 (fun z => by rw [z] at he; cases he) x hx
    · refine ⟨2, nI k, _, _, 0, M1, ?_, Or.inr (Or.inl ⟨hS, k, by omega, u1, hU, rfl, rfl, rfl, rfl, rfl⟩), fun z => absurd rfl z⟩
      obtain ⟨f, rfl⟩ : ∃ g', f = g' + 1 := ⟨f - 1, by omega⟩
      have e24 : ∀ r nm cl ot mn M, (mz_mt (mz_wy rs a A B C) r nm cl ot mn M).1 24 = mn := fun _ _ _ _ _ _ => rfl
      have z00 : (0 : Int32) ≤ 0 := Int32.le_refl _
      have stop : ∀ g r nm cl ot M, fn_X12_makeTable_b72 (g + 1) (mz_RH q sz (mz_mt (mz_wy rs a A B C) r nm cl ot 0 M)) (some q) 0 0 0 = some ((), mz_RH q sz (mz_mt (mz_wy rs a A B C) r nm cl ot 0 M), 0, 0) := fun g r nm cl ot M => by
        simp only [fn_X12_makeTable_b72, rg_24, e24, if_pos z00, zo_s, zc_t, zl_0, zr_e, z_0, z_1, if_true]
      have stop' := stop 1000
      have e1 : ∀ r nm cl ot M x, fn_X12_makeTable_b45 (f + 1) (mz_RH q sz (mz_mt (mz_wy rs a A B C) r nm cl ot 0 M)) (some q) 0 x = some ((), mz_RH q sz (mz_mt (mz_wy rs a A B C) r nm cl ot 0 M), 0, 0) := fun r nm cl ot M x => by
        by_cases hz : (31 : Int32) ≤ x
        · simp only [fn_X12_makeTable_b45, if_pos hz, fn_X12_makeTable_b67, stop']
        · simp only [fn_X12_makeTable_b45, if_neg hz, if_true, fn_X12_makeTable_b67, stop']
      rw [fn_X12_makeTable_b45]
      simp only [if_neg ng, if_neg one0, mz_RH_is, k1, e1, zo_s, zc_t, zl_0]
      rfl
theorem rs_makeTable (q sz : Nat) (wc : mz_wc n rs lv) (wm : mz_wm n rs mk mm) {c : Nat} (hc : c < n) {ws : List Nat} (T : wy_T n rs lv c ws) {Ns : List Nat} (hNs : Ns = tb_N (tb_f rs 3 0 ws) 31) : ∃ a A B C r nm cl ot cnt M, fn_X12_makeTable (mz_RH q sz rs) (some q) (nI c) = some ((), mz_RH q sz (mz_mt (mz_wy rs a A B C) r nm cl ot (nI cnt) M), 0, 0) ∧ tb_O rs (tb_f rs 3 0 ws) (tb_f rs 6 6 ws) Ns r nm cl ot cnt ∧ (cnt ≠ 0 → en_N rs (tb_f rs 3 0 ws) Ns M) := by
  have hn := wc.1
  have hl := T.len
  have hw : ∀ y, y ∈ ws → y < n := by
    obtain ⟨L, -, -, -, -, z⟩ := T
    exact z
  obtain ⟨a, A, B, C, e2, W⟩ := rs_way (rs := rs) wc q sz (rs.1 17) (rs.2.1 16) (rs.2.1 18) (rs.2.1 19) hc T
  rw [← wy_id rs] at e2
  have em := mt_id (mz_wy rs a A B C)
  rw [em] at e2
  generalize (mz_wy rs a A B C).2.1 25 = M0 at e2
  have pre : fn_X12_makeTable (mz_RH q sz rs) (some q) (nI c) = mz_call (fn_X12_hasStaticKey (mz_RH q sz (mz_mt (mz_wy rs a A B C) 0 (-9) (-9) (-9) 0 M0)) (some q)) fun v1 h => if v1 = 0 then fn_X12_makeTable_b45 1001 h (some q) 1 0 else mz_ret () h := by
    simp only [fn_X12_makeTable, mz_RH_is, e2, rp_20, rp_21, rp_22, rp_23, rp_24, mt_20, mt_21, mt_22, mt_23, mt_24, zo_s, zc_t, zl_0]
  rcases rs_skN (B := B) (C := C) (M := M0) (r := 0) (nm := -9) (cl := -9) (ot := -9) (mn := 0) q sz wm hn hw (by omega) W 31 0 1001 (by omega) (by omega) (fun k hk => absurd hk (Nat.not_lt_zero k)) with ⟨k1, hS⟩ | ⟨k0, c0, s0, z, h1, h2, h3, k1⟩
  · have k1' : fn_X12_hasStaticKey (mz_RH q sz (mz_mt (mz_wy rs a A B C) 0 (-9) (-9) (-9) 0 M0)) (some q) = some (0, mz_RH q sz (mz_mt (mz_wy rs a A B C) 0 (-9) (-9) (-9) 0 M0), 0, 0) := k1
    obtain ⟨r, nm, cl, ot, cnt, M', i1, i2⟩ := rs_names (B := B) (C := C) q sz wc wm hw (by omega) W hNs hS 31 0 1001 M0 (by omega) (by omega) (fun i kk hi => absurd hi (by simp [tb_N])) (fun k hk => absurd hk (Nat.not_lt_zero k))
    have i1' : fn_X12_makeTable_b45 1001 (mz_RH q sz (mz_mt (mz_wy rs a A B C) 0 (-9) (-9) (-9) 0 M0)) (some q) 1 0 = _ := i1
    exact ⟨a, A, B, C, r, nm, cl, ot, cnt, M', by rw [pre]; simp only [k1', i1', zl_0, if_true], i2⟩
  · have k1' : fn_X12_hasStaticKey (mz_RH q sz (mz_mt (mz_wy rs a A B C) 0 (-9) (-9) (-9) 0 M0)) (some q) = some (1, mz_RH q sz (mz_mt (mz_wy rs a A B C) 1 (nI k0) (nI c0) (-9) 0 M0), 0, 0) := k1
    exact ⟨a, A, B, C, 1, nI k0, nI c0, -9, 0, M0, by rw [pre]; simp only [k1', if_neg one0, zl_0, zr_e]; rfl, Or.inl ⟨k0, c0, s0, z, h1, h2, h3, rfl, rfl, rfl, rfl, rfl⟩, fun z => absurd rfl z⟩
end
theorem tb_E.val {rs : mz_RS} {k : Nat} {L : List (Nat × Nat)} {x : Nat → Int32} (h : tb_E rs k L x) (hL : L ≠ []) {y : Nat} (h1 : 1 ≤ y) (h6 : y ≤ 6) : x y = tb_val rs k L y := by
  cases L with
  | nil => exact absurd rfl hL
  | cons q r =>
    obtain ⟨l6, l5, l1, l2, l3, l4, -⟩ := h
    rcases (show y = 1 ∨ y = 2 ∨ y = 3 ∨ y = 4 ∨ y = 5 ∨ y = 6 by omega) with rfl | rfl | rfl | rfl | rfl | rfl
    · exact l1
    · exact l2
    · exact l3
    · exact l4
    · exact l5
    · exact l6
theorem rs_told2 (q sz : Nat) (R : mz_RS) {cnt : Nat} (hc : cnt ≤ 31) (e24 : R.1 24 = nI cnt) : ∀ (d x f : Nat) (F : Nat → Int32), x + d = 7 * cnt → d < f → fn_X12_scan_b57 f (mz_RH q sz (mz_qa R 31 F)) (some q) (nI x) = some (if R.1 20 ≤ 0 then nI cnt else (-20) - R.1 20, mz_RH q sz (mz_qa R 31 (fun p => if x ≤ p ∧ p < 7 * cnt then R.2.1 25 p else F p)), 0, 0) := by
  have e24' : ∀ F, (mz_qa R 31 F).1 24 = nI cnt := fun _ => e24
  have e20' : ∀ F, (mz_qa R 31 F).1 20 = R.1 20 := fun _ => rfl
  have e25' : ∀ F, (mz_qa R 31 F).2.1 25 = R.2.1 25 := fun _ => rfl
  intro d
  induction d with
  | zero =>
    intro x f F hx hf
    obtain ⟨f, rfl⟩ : ∃ g', f = g' + 1 := ⟨f - 1, by omega⟩
    have e : F = (fun p => if x ≤ p ∧ p < 7 * cnt then R.2.1 25 p else F p) := funext fun p => (if_neg (by omega)).symm
    rw [← e]
    have hle : nI (7 * cnt) ≤ nI x := nI_le (by omega) (by omega)
    by_cases z : R.1 20 ≤ 0
    · simp only [fn_X12_scan_b57, rg_24, rg_20, e24', e20', l7', if_pos hle, if_pos z, zo_s, zc_t, zl_0, zr_e, z_0, z_1, if_true]
    · simp only [fn_X12_scan_b57, rg_24, rg_20, e24', e20', l7', if_pos hle, if_neg z, zo_s, zc_t, zl_0, zr_e, z_0, z_1, if_true]
  | succ d ih =>
    intro x f F hx hf
    obtain ⟨f, rfl⟩ : ∃ g', f = g' + 1 := ⟨f - 1, by omega⟩
    have I := ih (x + 1) f (upd F x (R.2.1 25 x)) (by omega) (by omega)
    rw [show nI (x + 1) = nI x + 1 from (nI_add x 1).symm] at I
    have e : (fun p => if x + 1 ≤ p ∧ p < 7 * cnt then R.2.1 25 p else upd F x (R.2.1 25 x) p) = (fun p => if x ≤ p ∧ p < 7 * cnt then R.2.1 25 p else F p) := funext fun p => by
      by_cases hp : p = x
      · subst hp
        rw [if_neg (by omega), if_pos (by omega), pk_us]
      · rw [pk_un hp]
        by_cases h2 : x ≤ p ∧ p < 7 * cnt
        · rw [if_pos h2, if_pos (by omega)]
        · rw [if_neg h2, if_neg (by omega)]
    rw [e] at I
    simp only [fn_X12_scan_b57, rg_24, e24', l7', if_neg (nI_ge (show x < 7 * cnt by omega) (show 7 * cnt < 2 ^ 31 by omega)), rr_31, rw_31, rr_25, ra_25, ix_nI (show x < 217 by omega) (show 217 < 2 ^ 31 by omega), cl_nI (show x < 2 ^ 31 by omega), e25', qa_s, I, zo_s, if_true]
theorem tb_O.cnt {rs : mz_RS} {L S : Nat → List (Nat × Nat)} {Ns : List Nat} {r nm cl ot : Int32} {cnt : Nat} (h : tb_O rs L S Ns r nm cl ot cnt) : (cnt ≠ 0 → cnt = Ns.length) ∧ ((r = 0 ∧ cnt = Ns.length) ∨ (¬ r ≤ 0 ∧ ¬ r = 0 ∧ cnt = 0)) := by
  rcases h with ⟨k0, c0, s0, z, h1, h2, h3, rfl, rfl, rfl, rfl, rfl⟩ | ⟨hS, k0, h1, h2, h3, rfl, rfl, rfl, rfl, rfl⟩ | ⟨hS, hU, k0, h1, rfl, rfl, rfl, rfl, rfl⟩ | ⟨hS, hU, h1, rfl, rfl, rfl, rfl, rfl⟩
  · exact ⟨fun z => absurd rfl z, Or.inr ⟨by decide, by decide, rfl⟩⟩
  · exact ⟨fun z => absurd rfl z, Or.inr ⟨by decide, by decide, rfl⟩⟩
  · exact ⟨fun z => absurd rfl z, Or.inr ⟨by decide, by decide, rfl⟩⟩
  · exact ⟨fun _ => rfl, Or.inl ⟨rfl, rfl⟩⟩
theorem k_scan {VB o q l : Nat} {rs : mz_RS} {h : mz_H} (H : mz_In VB o (l + 1) rs h) (x : Int32) : mz_Ok VB o q l rs (fun h => fn_X11_scan h (some o) x) (fun h => fn_X12_scan h (some q) x) h := by
  obtain ⟨n, m, ad, lv, mk, mm, gi, go, gj, hR, w⟩ := id H
  obtain ⟨wc, wm, wo, wt, wl, wq, wa, wv⟩ := id w
  obtain rfl : ad (1, 0, 0, 0) = o := wa
  have hn40 := wc.1
  have hm60 := wo.1
  rcases mz_no x (show n < 2 ^ 31 by omega) with hx | ⟨c, hc, rfl⟩
  · exact mz_Ok.same H (-1) (by simp only [fn_X11_scan, cg_1_0 hR, ci_2 hR, cs_typeOf_no hR hx, zo_s, zc_t, zl_0, zr_e, z_0, z_1, if_true]) (by simp only [fn_X12_scan, mz_RH_is, rs_isClass_no q h.2 wc.2.1 hx, zo_s, zc_t, zl_0, zr_e, z_0, z_1, if_true])
  obtain ⟨ws, T⟩ := wy_T_ex wc hc
  obtain ⟨Ns, hNs⟩ : ∃ Ns, Ns = tb_N (tb_f rs 3 0 ws) 31 := ⟨_, rfl⟩
  have hlen : Ns.length ≤ 31 := by rw [hNs]; exact tb_N_len _ 31
  have hmm : ∀ x ∈ Ns, x < 31 ∧ tb_f rs 3 0 ws x ≠ [] := by rw [hNs]; exact tb_N_mem _ 31
  obtain ⟨h1, F, E, G, gi', k1, R1, s1, -, hE, cnt, f0, O1, -, hG⟩ := cs_read (t := 0) (by omega) wc wm hR hc T hNs
  obtain ⟨a, A, B, C, r, nm, cl, ot, cnt', M, k2, O2, hM⟩ := rs_makeTable (rs := rs) q h.2 wc wm hc T hNs
  clear hNs
  obtain ⟨e1, e2, e3, e4, rfl⟩ := O1.uniq O2
  obtain ⟨hcn, hr⟩ := O2.cnt
  have hc31 : cnt ≤ 31 := by
    by_cases z : cnt = 0
    · omega
    · rw [hcn z]; exact hlen
  have RC := rs_isClass (rs := rs) q h.2 wc.2.1 wc.1 hc
  -- the reference's state behind it
  have K := rs_told2 q h.2 (mz_si (mz_si (mz_si (mz_si (mz_si (mz_mt (mz_wy rs a A B C) r nm cl ot (nI cnt) M) 26 r) 27 nm) 28 cl) 29 ot) 30 (nI cnt)) hc31 rfl (7 * cnt) 0 1001 (rs.2.1 31) (by omega) (by omega)
  have eid : mz_qa (mz_si (mz_si (mz_si (mz_si (mz_si (mz_mt (mz_wy rs a A B C) r nm cl ot (nI cnt) M) 26 r) 27 nm) 28 cl) 29 ot) 30 (nI cnt)) 31 (rs.2.1 31) = mz_si (mz_si (mz_si (mz_si (mz_si (mz_mt (mz_wy rs a A B C) r nm cl ot (nI cnt) M) 26 r) 27 nm) 28 cl) 29 ot) 30 (nI cnt) := (qa_id _ 31).symm
  rw [eid] at K
  have K' : fn_X12_scan_b57 1001 (mz_RH q h.2 (mz_si (mz_si (mz_si (mz_si (mz_si (mz_mt (mz_wy rs a A B C) r nm cl ot (nI cnt) M) 26 r) 27 nm) 28 cl) 29 ot) 30 (nI cnt))) (some q) 0 = _ := K
  refine ⟨if r ≤ 0 then nI cnt else (-20) - r, h1, 0, 0, mz_qa (mz_si (mz_si (mz_si (mz_si (mz_si (mz_mt (mz_wy rs a A B C) r nm cl ot (nI cnt) M) 26 r) 27 nm) 28 cl) 29 ot) 30 (nI cnt)) 31 (fun p => if 0 ≤ p ∧ p < 7 * cnt then M p else rs.2.1 31 p), ?_, ?_, ⟨n, m, ad, lv, mk, mm, mz_gt 0 gi' F E, mz_ot 0 go G, gj, R1.same ?_, wc, wm, wo, ?_, wl, wq, rfl, by omega⟩, by omega, Nat.le_refl _, by omega, by omega⟩
  · have t3 : mz_fI h1 (some (ad (12, 0, 0, 0))) 6 3 = some r := by rw [← e1]; exact tr_f (t := 0) (by omega) R1 (x := 1) (by omega)
    have t2 : mz_fI h1 (some (ad (12, 0, 0, 0))) 6 2 = some (nI cnt) := by rw [← f0]; exact tr_f (t := 0) (by omega) R1 (x := 0) (by omega)
    rcases hr with ⟨z, -⟩ | ⟨z, z', -⟩
    · have z0 : r ≤ 0 := by rw [z]; decide
      simp only [fn_X11_scan, cg_1_0 hR, ci_2 hR, cs_typeOf hR wc.1 hc, if_neg smn, cg_1_1 hR, ci_12 hR (show 0 < 2 by omega), k1, cg_1_1 R1, t3, if_pos z, t2, if_pos z0, zo_s, zc_t, zl_0, zr_e, z_0, z_1, if_true]
    · simp only [fn_X11_scan, cg_1_0 hR, ci_2 hR, cs_typeOf hR wc.1 hc, if_neg smn, cg_1_1 hR, ci_12 hR (show 0 < 2 by omega), k1, cg_1_1 R1, t3, if_neg z', if_neg z, zo_s, zc_t, zl_0, zr_e, z_0, z_1, if_true]
  · have y20 : (mz_mt (mz_wy rs a A B C) r nm cl ot (nI cnt) M).1 20 = r := rfl
    have y21 : (mz_si (mz_mt (mz_wy rs a A B C) r nm cl ot (nI cnt) M) 26 r).1 21 = nm := rfl
    have y22 : (mz_si (mz_si (mz_mt (mz_wy rs a A B C) r nm cl ot (nI cnt) M) 26 r) 27 nm).1 22 = cl := rfl
    have y23 : (mz_si (mz_si (mz_si (mz_mt (mz_wy rs a A B C) r nm cl ot (nI cnt) M) 26 r) 27 nm) 28 cl).1 23 = ot := rfl
    have y24 : (mz_si (mz_si (mz_si (mz_si (mz_mt (mz_wy rs a A B C) r nm cl ot (nI cnt) M) 26 r) 27 nm) 28 cl) 29 ot).1 24 = nI cnt := rfl
    rw [s1]
    simp only [fn_X12_scan, mz_RH_is, RC, if_neg one0, k2, rg_20, rg_21, rg_22, rg_23, rg_24, rp_26, rp_27, rp_28, rp_29, rp_30, y20, y21, y22, y23, y24, K', zo_s, zc_t, zl_0]
    rfl
  · apply mz_hq <;> first | (exact fun _ _ _ => Or.inl rfl) | skip
    intro i j k
    by_cases hq : i < 2 ∧ j = 0 ∧ k = 0
    · left
      rcases (show i = 0 ∨ i = 1 by omega) with rfl | rfl
      · apply keep12
        refine Or.inl ⟨rfl, fun x h1 h2 => ?_⟩
        rcases (show x = 26 ∨ x = 27 ∨ x = 28 ∨ x = 29 ∨ x = 30 by omega) with rfl | rfl | rfl | rfl | rfl
        · exact e1.symm
        · exact e2.symm
        · exact e3.symm
        · exact e4.symm
        · exact f0.symm
      · rfl
    · exact Or.inr (if_neg hq)
  · refine ⟨cnt, hc31, rfl, fun i hi => ?_⟩
    have hcN : cnt = Ns.length := hcn (by omega)
    have hiN : i < Ns.length := by omega
    obtain ⟨kk, hkk⟩ : ∃ kk, Ns[i]? = some kk := ⟨Ns[i], List.getElem?_eq_getElem hiN⟩
    obtain ⟨hk31, hkne⟩ := hmm kk (List.mem_of_getElem? hkk)
    have hMM := hM (by omega) i kk hkk
    have told : ∀ x, x ≤ 6 → (if 0 ≤ 7 * i + x ∧ 7 * i + x < 7 * cnt then M (7 * i + x) else rs.2.1 31 (7 * i + x)) = tb_val rs kk (tb_f rs 3 0 ws kk) x := fun x hx => by
      rw [if_pos (by omega)]
      exact hMM x hx
    have ev : ∀ x, 1 ≤ x → x ≤ 6 → E kk x = tb_val rs kk (tb_f rs 3 0 ws kk) x := fun x h1 h6 => (hE kk hk31).val hkne h1 h6
    refine ⟨kk, hk31, (hG i hiN).trans hkk, told 0 (by omega), ?_, ?_, ?_, ?_, ?_, ?_⟩
    · exact (told 1 (by omega)).trans (ev 1 (by omega) (by omega)).symm
    · exact (told 2 (by omega)).trans (ev 2 (by omega) (by omega)).symm
    · exact (told 3 (by omega)).trans (ev 3 (by omega) (by omega)).symm
    · exact (told 4 (by omega)).trans (ev 4 (by omega) (by omega)).symm
    · exact (told 5 (by omega)).trans (ev 5 (by omega) (by omega)).symm
    · exact (told 6 (by omega)).trans (ev 6 (by omega) (by omega)).symm

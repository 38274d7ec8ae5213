/-! new cells: helpers; list -/
def mz_te (t u : mz_T) : Bool := t.1 == u.1 && (t.2.1 == u.2.1 && (t.2.2.1 == u.2.2.1 && t.2.2.2 == u.2.2.2))
theorem te_iff (t u : mz_T) : mz_te t u = true ↔ t = u := by
  obtain ⟨a, b, c, d⟩ := t
  obtain ⟨a', b', c', d'⟩ := u
  simp [mz_te]
def mz_ap (ad : mz_T → Nat) (u : mz_T) (a : Nat) : mz_T → Nat := fun t => if mz_te t u then a else ad t
theorem ap_at (ad : mz_T → Nat) (u : mz_T) (a : Nat) : mz_ap ad u a u = a := if_pos ((te_iff u u).mpr rfl)
theorem ap_ne (ad : mz_T → Nat) {u t : mz_T} (a : Nat) (h : t ≠ u) : mz_ap ad u a t = ad t := if_neg fun q => h ((te_iff t u).mp q)
def mz_qa (rs : mz_RS) (j0 : Nat) (F : Nat → Int32) : mz_RS := (rs.1, fun j => if j = j0 then F else rs.2.1 j, rs.2.2)
theorem qa_id (rs : mz_RS) (j0 : Nat) : rs = mz_qa rs j0 (rs.2.1 j0) := by
  refine Prod.ext rfl (Prod.ext (funext fun k => ?_) rfl)
  show rs.2.1 k = if k = j0 then rs.2.1 j0 else rs.2.1 k
  by_cases h : k = j0
  · rw [if_pos h, h]
  · rw [if_neg h]
theorem qa_s (rs : mz_RS) (j0 : Nat) (F : Nat → Int32) (i : Nat) (v : Int32) : mz_sa (mz_qa rs j0 F) j0 i v = mz_qa rs j0 (upd F i v) := by
  refine Prod.ext rfl (Prod.ext (funext fun k => ?_) rfl)
  show (if k = j0 then upd (if j0 = j0 then F else rs.2.1 j0) i v else if k = j0 then F else rs.2.1 k) = if k = j0 then upd F i v else rs.2.1 k
  rw [if_pos rfl]
  by_cases h : k = j0
  · rw [if_pos h, if_pos h]
  · rw [if_neg h, if_neg h, if_neg h]
theorem nw_ne (h : mz_H) (e : mz_E) {a : Nat} (ha : a ≠ h.2) : (mz_nw h e).1 a = h.1 a := if_neg ha
theorem pF_ex {h : mz_H} {a ci k : Nat} {fs : List Value} {v : Value} (hc : h.1 a = some (.inr (ci, fs))) (hk : k < fs.length) : ∃ h', mz_pF h (some a) ci k v = some h' ∧ h'.2 = h.2 ∧ h'.1 a = some (.inr (ci, fs.set k v)) ∧ ∀ b, b ≠ a → h'.1 b = h.1 b :=
  ⟨_, pF_of hc hk, rfl, up_at _ _ _, fun _ hb => up_ne _ _ hb⟩
theorem sR_ex {h : mz_H} {a t n j : Nat} {f : Nat → Option Nat} {v : Option Nat} (hc : h.1 a = some (.inl (t, n, .inr (.inr (.inr (.inr f)))))) (hj : j < n) (hn : n < 2 ^ 31) (hv : (v.isNone || mz_is h v (t - 10)) = true) : ∃ h', mz_sR h (some a) t (nI j) v = some h' ∧ h'.2 = h.2 ∧ h'.1 a = some (.inl (t, n, .inr (.inr (.inr (.inr (va_up f j v)))))) ∧ ∀ b, b ≠ a → h'.1 b = h.1 b := by
  refine ⟨_, sR_of hc (ix_nI hj hn) hv, rfl, ?_, fun _ hb => up_ne _ _ hb⟩
  rw [up_at, cl_nI (by omega)]
theorem cs_roster (h : mz_H) (x : Int32) {N : Nat} (hN : N ≤ 8) : ∃ h', fn_X4_init (mz_nw h (.inr (3, [.int 0, .null]))) (some h.2) x (nI N) = some ((), h', 1, N) ∧ h'.2 = h.2 + 2 ∧ h'.1 h.2 = some (.inr (3, [.int x, .ref (h.2 + 1)])) ∧ h'.1 (h.2 + 1) = some (.inl (0, N, .inl (fun c => if c < N then -9 else 0))) ∧ ∀ a, a < h.2 → h'.1 a = h.1 a := by
  obtain ⟨h1, k1, s1, c1, o1⟩ := pF_ex (k := 0) (v := .int x) (nw_at h (.inr (3, [.int 0, .null]))) (lt_rfl rfl)
  have s1' : h1.2 = h.2 + 1 := s1
  have c2 : (mz_nw h1 (.inl (0, N, .inl (fun _ => 0)))).1 h.2 = some (.inr (3, [.int x, .null])) := (nw_ne _ _ (by omega)).trans c1
  obtain ⟨h3, k3, s3, c3, o3⟩ := pF_ex (k := 1) (v := va_rf (some h1.2)) c2 (lt_rfl rfl)
  have s3' : h3.2 = h1.2 + 1 := s3
  have g : mz_fR h3 (some h.2) 3 1 = some (some h1.2) := fR_of (r := some h1.2) c3 rfl
  have a3 : h3.1 h1.2 = some (.inl (0, N, .inl (fun _ => 0))) := (o3 _ (by omega)).trans (nw_at _ _)
  obtain ⟨h4, k4, s4, o4, c4⟩ := cs_fillI (a := h1.2) (show N < 1000 by omega) (-9) N 0 1001 h3 _ (by omega) (by omega) a3
  have k4' : fn_J_fillI_b5 1001 h3 (some h1.2) (-9) 0 (nI N) = some ((), h4, 0, 0) := k4
  refine ⟨h4, ?_, by omega, ?_, ?_, fun a ha => ?_⟩
  · simp only [fn_X4_init, Option.isSome, k1, if_neg (nI_pos (show N < 2 ^ 31 by omega)), zn_a h1 0 (show N ≤ 1000000 by omega), k3, g, fn_J_fillI, len_of a3, k4', za_s, zo_s, zc_t, zl_0, zr_e, z_0, z_1, if_true]
    simp only [Nat.zero_add]
  · rw [o4 _ (by omega), c3]
    show some (Sum.inr (3, [Value.int x, Value.ref h1.2])) = _
    rw [s1']
  · rw [← s1', c4]
    refine congrArg (fun f => some (Sum.inl (0, N, Sum.inl f))) (funext fun c => ?_)
    by_cases hc : c < N
    · rw [if_pos hc, if_pos ⟨Nat.zero_le _, hc⟩]
    · rw [if_neg hc, if_neg fun q => hc q.2]
  · rw [o4 _ (by omega), o3 _ (by omega), nw_ne _ _ (by omega), o1 _ (by omega), nw_ne _ _ (by omega)]
theorem rs_listed (q sz : Nat) (rs : mz_RS) {k N : Nat} (hk : k < 4) (hN : N ≤ 8) : ∀ (d x f : Nat) (F : Nat → Int32), x + d = N → d < f → fn_X12_list_b61 f (mz_RH q sz (mz_qa rs 51 F)) (some q) (nI k) (nI N) (nI x) = some (1, mz_RH q sz (mz_qa rs 51 (fun p => if 8 * k + x ≤ p ∧ p < 8 * k + N then -9 else F p)), 0, 0) := by
  intro d
  induction d with
  | zero =>
    intro x f F hx hf
    obtain ⟨f, rfl⟩ : ∃ g', f = g' + 1 := ⟨f - 1, by omega⟩
    have e : F = (fun p => if 8 * k + x ≤ p ∧ p < 8 * k + N then -9 else F p) := funext fun p => (if_neg (by omega)).symm
    rw [← e]
    simp only [fn_X12_list_b61, if_pos (nI_le (show N ≤ x by omega) (by omega)), zo_s, zc_t, zl_0, zr_e, z_0, z_1, if_true]
  | succ d ih =>
    intro x f F hx hf
    obtain ⟨f, rfl⟩ : ∃ g', f = g' + 1 := ⟨f - 1, by omega⟩
    have I := ih (x + 1) f (upd F (8 * k + x) (-9)) (by omega) (by omega)
    rw [show nI (x + 1) = nI x + 1 from (nI_add x 1).symm] at I
    have e : (fun p => if 8 * k + (x + 1) ≤ p ∧ p < 8 * k + N then -9 else upd F (8 * k + x) (-9) p) = (fun p => if 8 * k + x ≤ p ∧ p < 8 * k + N then -9 else F p) := funext fun p => by
      by_cases hp : p = 8 * k + x
      · subst hp
        rw [if_neg (by omega), if_pos (by omega), pk_us]
      · rw [pk_un hp]
        by_cases h2 : 8 * k + x ≤ p ∧ p < 8 * k + N
        · rw [if_pos h2, if_pos (by omega)]
        · rw [if_neg h2, if_neg (by omega)]
    rw [e] at I
    simp only [fn_X12_list_b61, if_neg (nI_ge (show x < N by omega) (show N < 2 ^ 31 by omega)), rr_51, rw_51, l8, ix_nI (show 8 * k + x < 32 by omega) (show 32 < 2 ^ 31 by omega), cl_nI (show 8 * k + x < 2 ^ 31 by omega), qa_s, I, zo_s, if_true]
def mz_ls (rs : mz_RS) (k N t : Nat) : mz_RS := mz_qa (mz_sa (mz_sa rs 49 k (nI N)) 50 k (nI t)) 51 (fun p => if 8 * k + 0 ≤ p ∧ p < 8 * k + N then -9 else rs.2.1 51 p)
section
variable {VB : Nat} {n m : Nat} {rs : mz_RS} {ad : mz_T → Nat} {lv : Nat → Int32} {mk : Nat → Nat} {mm : Nat → Nat → Nat × Nat} {gi : Nat → Nat → Nat → Int32} {go : Nat → Nat → Option Nat} {gj : Nat → Nat → Int64} {h : mz_H}
theorem cw_list (hR : mz_Rp VB n m rs ad lv mk mm gi go gj h) (wl : mz_wl n rs) {k N t : Nat} (hk : k < 4) (hN : N ≤ 8) (hv : h.2 + 2 ≤ VB) : ∃ h', (mz_oN h 3 2 [.int 0, .null] fun v3 h => mz_chk (mz_is h v3 3) <| mz_call (fn_X4_init h v3 (nI t) (nI N)) fun _ h => mz_op (mz_sR h (some (ad (27, 0, 0, 0))) 13 (nI k) v3) fun h => mz_ret (1 : Int32) h) = some (1, h', 2, N + 2) ∧ mz_Rp VB n m (mz_ls rs k N t) (mz_ap (mz_ap ad (28, k, 0, 0) h.2) (29, k, 0, 0) (h.2 + 1)) lv mk mm gi go gj h' ∧ h'.2 = h.2 + 2 := by
  obtain ⟨h1, k1, s1, c1, c2, o1⟩ := cs_roster h (nI t) hN
  have b27 := cb_27 hR
  have c27 : h1.1 (ad (27, 0, 0, 0)) = _ := (o1 _ b27).trans (cc_27 hR)
  obtain ⟨h2, k2, s2, c3, o2⟩ := sR_ex (j := k) (v := some h.2) c27 hk (by omega) (by simp only [is_of c1, Bool.or_true])
  have z0 : (0 : Int32) ≤ nI N := nI_pos' (by omega)
  have e49 : (mz_ls rs k N t).2.1 49 k = nI N := pk_us
  have e50 : (mz_ls rs k N t).2.1 50 k = nI t := pk_us
  have e49' : ∀ i, i ≠ k → (mz_ls rs k N t).2.1 49 i = rs.2.1 49 i := fun i hi => pk_un hi
  have e50' : ∀ i, i ≠ k → (mz_ls rs k N t).2.1 50 i = rs.2.1 50 i := fun i hi => pk_un hi
  have e51 : ∀ c, c < N → (mz_ls rs k N t).2.1 51 (8 * k + c) = -9 := fun c hc => if_pos (by omega)
  have e51' : ∀ p, ¬ (8 * k ≤ p ∧ p < 8 * k + N) → (mz_ls rs k N t).2.1 51 p = rs.2.1 51 p := fun p hp => if_neg (by omega)
  refine ⟨h2, ?_, ?_, by omega⟩
  · simp only [zn_o, is_of (nw_at h (.inr (3, [.int 0, .null]))), k1, zl_s, za_s, k2, zo_s, zc_t, zl_0, zr_e, z_0, z_1, if_true]
    simp only [Nat.zero_add, Nat.reduceAdd]
  refine hR.bulk (fun t => t = (28, k, 0, 0) ∨ t = (29, k, 0, 0)) (fun t => t = (27, 0, 0, 0)) (by omega) (by omega) (fun t ht => ?_) (fun t ht => ?_) (fun t t' h1 h2 e => ?_) (fun a ha hC => ?_) (fun f i j k' e hN' he => ?_) (fun f i j k' e hC _ he => ?_) ?_
  · rw [ap_ne _ _ (fun q => ht (Or.inr q)), ap_ne _ _ (fun q => ht (Or.inl q))]
  · rcases ht with rfl | rfl
    · rw [ap_ne _ _ (by simp), ap_at]
      omega
    · rw [ap_at]
      omega
  · rcases h1 with rfl | rfl <;> rcases h2 with rfl | rfl
    · rfl
    · rw [ap_ne _ _ (by simp), ap_at, ap_at] at e
      omega
    · rw [ap_ne _ _ (by simp : ((28, k, 0, 0) : mz_T) ≠ (29, k, 0, 0)), ap_at, ap_at] at e
      omega
    · rfl
  · rw [o2 _ (hC _ rfl), o1 _ ha]
  · rcases hN' with q | q
    · cases q
      have he' : mz_f28 n m (mz_ls rs k N t) (mz_ap (mz_ap ad (28, k, 0, 0) h.2) (29, k, 0, 0) (h.2 + 1)) lv mk mm gi go gj k 0 0 = some e := he
      rw [mz_f28, if_pos ⟨hk, by rw [e49]; exact z0, rfl, rfl⟩, ap_at, e50] at he'
      cases he'
      rw [ap_ne _ _ (by simp), ap_at, o2 _ (by omega), c1]
    · cases q
      have he' : mz_f29 n m (mz_ls rs k N t) (mz_ap (mz_ap ad (28, k, 0, 0) h.2) (29, k, 0, 0) (h.2 + 1)) lv mk mm gi go gj k 0 0 = some e := he
      rw [mz_f29, if_pos ⟨hk, by rw [e49]; exact z0, rfl, rfl⟩, e49, cl_nI (by omega)] at he'
      cases he'
      rw [ap_at, o2 _ (by omega), c2]
      refine congrArg (fun f => some (Sum.inl (0, N, Sum.inl f))) (funext fun c => ?_)
      by_cases hc : c < N
      · rw [if_pos hc, if_pos hc, e51 c hc]
      · rw [if_neg hc, if_neg hc]
  · cases hC
    have he' : mz_f27 n m (mz_ls rs k N t) (mz_ap (mz_ap ad (28, k, 0, 0) h.2) (29, k, 0, 0) (h.2 + 1)) lv mk mm gi go gj 0 0 0 = some e := he
    rw [mz_f27, if_pos ⟨rfl, rfl, rfl⟩] at he'
    cases he'
    refine ⟨?_, b27⟩
    rw [c3]
    refine congrArg (fun f => some (Sum.inl (13, 4, Sum.inr (Sum.inr (Sum.inr (Sum.inr f)))))) (funext fun c => ?_)
    by_cases hc : c = k
    · subst hc
      rw [va_up_self, e49, if_pos ⟨hk, z0⟩, ap_ne _ _ (by simp), ap_at]
    · rw [va_up_ne _ _ hc, e49' c hc, ap_ne _ _ (by simp), ap_ne _ _ (by simp [hc])]
  · apply mz_hb <;> first | (exact fun _ _ _ _ => Or.inl rfl) | skip
    · intro i j k' hq
      exact Or.inr (if_neg fun z => hq.2 (by rw [z.1, z.2.1, z.2.2]))
    · intro i j k' hq
      by_cases hc : i < 4 ∧ 0 ≤ (mz_ls rs k N t).2.1 49 i ∧ j = 0 ∧ k' = 0
      · have hik : i ≠ k := fun e => hq.1 (Or.inl (by rw [e, hc.2.2.1, hc.2.2.2]))
        left
        unfold mz_f28
        rw [e49' i hik, e50' i hik, ap_ne _ _ (by simp [hik]), ap_ne _ _ (by simp)]
      · exact Or.inr (if_neg hc)
    · intro i j k' hq
      by_cases hc : i < 4 ∧ 0 ≤ (mz_ls rs k N t).2.1 49 i ∧ j = 0 ∧ k' = 0
      · have hik : i ≠ k := fun e => hq.1 (Or.inr (by rw [e, hc.2.2.1, hc.2.2.2]))
        left
        unfold mz_f29
        rw [e49' i hik]
        have ef : (fun c => if c < (rs.2.1 49 i).toNatClampNeg then (mz_ls rs k N t).2.1 51 (8 * i + c) else 0) = (fun c => if c < (rs.2.1 49 i).toNatClampNeg then rs.2.1 51 (8 * i + c) else 0) := funext fun c => by
          by_cases hc : c < (rs.2.1 49 i).toNatClampNeg
          · have hl : (rs.2.1 49 i).toNatClampNeg ≤ 8 := by
              rcases wl.1 i (by omega) with q | ⟨l, hl, q⟩
              · rw [q]
                decide
              · rw [q, cl_nI (by omega)]
                exact hl
            rw [if_pos hc, if_pos hc, e51' _ (by omega)]
          · rw [if_neg hc, if_neg hc]
        rw [ef]
      · exact Or.inr (if_neg hc)
end
theorem k_list {VB o q l : Nat} {rs : mz_RS} {h : mz_H} (H : mz_In VB o (l + 1) rs h) (x y z : Int32) : mz_Ok VB o q l rs (fun h => fn_X11_list h (some o) x y z) (fun h => fn_X12_list h (some q) x y z) h := by
  refine ok_flt H (fun _ => rfl) (fun _ => rfl) (fun h1 H1 => ?_)
  clear H
  revert H1
  generalize mz_si rs 0 0 = rs
  clear h
  intro H
  generalize h1 = h at H ⊢
  obtain ⟨n, m, ad, lv, mk, mm, gi, go, gj, hR, w⟩ := id H
  obtain ⟨wc, wm, wo, wt, wl, wq, wa, wv⟩ := id w
  obtain rfl : ad (1, 0, 0, 0) = o := wa
  have hn40 := wc.1
  have hm60 := wo.1
  have e4 : (4 ≤ x) ↔ (3 < x) := by
    rw [Int32.le_iff_toInt_le, Int32.lt_iff_toInt_lt]
    show (4 : Int) ≤ _ ↔ (3 : Int) < _
    omega
  by_cases c1 : x < 0
  · exact mz_Ok.same H (-1) (by simp only [cs_isList, if_pos c1, zo_s, zc_t, zl_0, zr_e, z_0, z_1, if_true]) (by simp only [rs_within, if_pos c1, zo_s, zc_t, zl_0, zr_e, z_0, z_1, if_true])
  by_cases c2 : 3 < x
  · exact mz_Ok.same H (-1) (by simp only [cs_isList, if_neg c1, if_pos (e4.mpr c2), zo_s, zc_t, zl_0, zr_e, z_0, z_1, if_true]) (by simp only [rs_within, if_neg c1, if_pos c2, zo_s, zc_t, zl_0, zr_e, z_0, z_1, if_true])
  have c2' : ¬ 4 ≤ x := fun q => c2 (e4.mp q)
  by_cases c3 : y < 0
  · exact mz_Ok.same H (-2) (by simp only [cs_isList, if_neg c1, if_neg c2', if_neg one0, if_pos c3, zo_s, zc_t, zl_0, zr_e, z_0, z_1, if_true]) (by simp only [rs_within, if_neg c1, if_neg c2, if_neg one0, if_pos c3, zo_s, zc_t, zl_0, zr_e, z_0, z_1, if_true])
  by_cases c4 : 2 < y
  · exact mz_Ok.same H (-2) (by simp only [cs_isList, if_neg c1, if_neg c2', if_neg one0, if_neg c3, if_pos c4, zo_s, zc_t, zl_0, zr_e, z_0, z_1, if_true]) (by simp only [rs_within, if_neg c1, if_neg c2, if_neg one0, if_neg c3, if_pos c4, zo_s, zc_t, zl_0, zr_e, z_0, z_1, if_true])
  by_cases c5 : z ≤ 8
  case neg => exact mz_Ok.same H (-2) (by simp only [cs_isList, if_neg c1, if_neg c2', if_neg one0, if_neg c3, if_neg c4, if_neg c5, zo_s, zc_t, zl_0, zr_e, z_0, z_1, if_true]) (by simp only [rs_within, if_neg c1, if_neg c2, if_neg one0, if_neg c3, if_neg c4, if_neg c5, zo_s, zc_t, zl_0, zr_e, z_0, z_1, if_true])
  by_cases c6 : 0 ≤ z
  case neg =>
    refine ok_fail H 5 ?_ (fun sz => ?_)
    · simp only [cs_isList, if_neg c1, if_neg c2', if_neg one0, if_neg c3, if_neg c4, if_pos c5, if_neg c6, zl_0]
    · simp only [rs_within, if_neg c1, if_neg c2, if_neg one0, if_neg c3, if_neg c4, if_pos c5, if_neg c6, zl_0]
  obtain ⟨k, hk, rfl⟩ : ∃ i : Nat, i < 4 ∧ x = nI i := by
    rcases pk_ix x (show 4 < 2 ^ 31 by omega) with q | q | q
    · exact absurd q c1
    · exact absurd q c2'
    · exact q
  obtain ⟨t, ht, rfl⟩ : ∃ i : Nat, i ≤ 2 ∧ y = nI i := nI_of2 (M := 2) rfl c3 (Int32.not_lt.mp c4)
  obtain ⟨N, hN, rfl⟩ : ∃ i : Nat, i ≤ 8 ∧ z = nI i := nI_of2 (M := 8) rfl (Int32.not_lt.mpr c6) c5
  obtain ⟨h1, k1, R1, s1⟩ := cw_list (t := t) hR wl hk hN (by omega)
  have L := rs_listed q h1.2 (mz_sa (mz_sa rs 49 k (nI N)) 50 k (nI t)) hk hN N 0 1001 (rs.2.1 51) (by omega) (by omega)
  have e0 : mz_qa (mz_sa (mz_sa rs 49 k (nI N)) 50 k (nI t)) 51 (rs.2.1 51) = mz_sa (mz_sa rs 49 k (nI N)) 50 k (nI t) := (qa_id _ 51).symm
  rw [e0] at L
  have L' : fn_X12_list_b61 1001 (mz_RH q h1.2 (mz_sa (mz_sa rs 49 k (nI N)) 50 k (nI t))) (some q) (nI k) (nI N) 0 = some (1, mz_RH q h1.2 (mz_ls rs k N t), 0, 0) := L
  have wl' : mz_wl n (mz_ls rs k N t) := by
    refine ⟨fun i hi => ?_, fun i hi => ?_⟩
    · by_cases hik : i = k
      · subst hik
        exact Or.inr ⟨N, hN, pk_us⟩
      · rw [show (mz_ls rs k N t).2.1 49 i = rs.2.1 49 i from pk_un hik]
        exact wl.1 i hi
    · by_cases hik : i = k
      · subst hik
        rw [show (mz_ls rs i N t).2.1 50 i = nI t from pk_us]
        rcases (show t = 0 ∨ t = 1 ∨ t = 2 by omega) with rfl | rfl | rfl
        · exact Or.inl rfl
        · exact Or.inr (Or.inl rfl)
        · exact Or.inr (Or.inr rfl)
      · rw [show (mz_ls rs k N t).2.1 50 i = rs.2.1 50 i from pk_un hik]
        exact wl.2 i hi
  refine ⟨1, h1, 2, N + 2, mz_ls rs k N t, ?_, ?_, ⟨n, m, _, lv, mk, mm, gi, go, gj, R1, wc, wm, wo, wt, wl', wq, ?_, by omega⟩, by omega, Nat.le_refl _, by omega, by omega⟩
  · simp only [cs_isList, if_neg c1, if_neg c2', if_neg one0, if_neg c3, if_neg c4, if_pos c5, if_pos c6, cg_1_7 hR, zo_s, zl_0]
    exact k1
  · simp only [rs_within, if_neg c1, if_neg c2, if_neg one0, if_neg c3, if_neg c4, if_pos c5, if_pos c6, rr_49, rw_49, rr_50, rw_50, ix_nI (show k < 4 by omega) (show 4 < 2 ^ 31 by omega), cl_nI (show k < 2 ^ 31 by omega), L', zo_s, zl_0, if_true]
  · rfl

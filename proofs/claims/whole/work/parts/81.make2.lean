/-! make: the reference's slots; the call -/
theorem tw_q3 (rs : mz_RS) (v : Int32) (X : Nat → Nat → Int32) (J F : Nat → Int64) : mz_q3 (mz_tw rs v X J) F = mz_tw rs v X F := by
  refine Prod.ext rfl (Prod.ext rfl (funext fun k => ?_))
  show (if k = 43 then F else if k = 43 then J else rs.2.2 k) = if k = 43 then F else rs.2.2 k
  by_cases h : k = 43
  · rw [if_pos h, if_pos h]
  · rw [if_neg h, if_neg h, if_neg h]
def mk_C (M : Nat → Int32) (B t : Nat) (X : Nat → Nat → Int32) (J : Nat → Int64) : Prop := X 35 B = M (7 * t) ∧ X 36 B = M (7 * t + 3) ∧ X 37 B = M (7 * t + 4) ∧ X 38 B = M (7 * t + 5) ∧ X 39 B = (if M (7 * t + 4) = 0 then 1 else 0) ∧ X 40 B = 1 ∧ J (900 * B) = mz_z8 (M (7 * t + 3))
theorem rs_mkS (q sz : Nat) {rs : mz_RS} {m cnt : Nat} {M : Nat → Int32} (hm : m < 60) (hc : cnt ≤ 16) (e24 : rs.1 24 = nI cnt) (e25 : rs.2.1 25 = M) : ∀ (d s f : Nat) (X : Nat → Nat → Int32) (J : Nat → Int64), s + d = cnt → d < f → (∀ t, t < s → mk_C M (16 * m + t) t X J) → tw_B rs (16 * m) X J → ∃ (X' : Nat → Nat → Int32) (J' : Nat → Int64), fn_X12_make_b104 f (mz_RH q sz (mz_tw rs (nI m) X J)) (some q) (nI s) = some (nI m, mz_RH q sz (mz_tw rs (nI (m + 1)) X' J'), 0, 0) ∧ (∀ t, t < cnt → mk_C M (16 * m + t) t X' J') ∧ tw_B rs (16 * m) X' J' ∧ X' 33 = X 33 ∧ X' 34 = X 34 := by
  have x24 : ∀ v X J, (mz_tw rs v X J).1 24 = nI cnt := fun _ _ _ => e24
  have x25 : ∀ v X J, (mz_tw rs v X J).2.1 25 = M := fun _ _ _ => e25
  have x32 : ∀ v X J, (mz_tw rs v X J).1 32 = v := fun _ _ _ => rfl
  intro d
  induction d with
  | zero =>
    intro s f X J hs hf hC hB
    obtain ⟨f, rfl⟩ : ∃ g', f = g' + 1 := ⟨f - 1, by omega⟩
    have e : s = cnt := by omega
    subst e
    have em : nI m + 1 = nI (m + 1) := nI_add m 1
    have em2 : nI (m + 1) - 1 = nI m := by rw [← em]; exact Int32.add_sub_cancel _ _
    exact ⟨X, J, by simp only [fn_X12_make_b104, rg_24, x24, if_pos (Int32.le_refl _), rg_32, x32, em, rp_32, tw_32, em2, zo_s, zc_t, zl_0, zr_e, z_0, z_1, if_true], hC, hB, rfl, rfl⟩
  | succ d ih =>
    intro s f X J hs hf hC hB
    obtain ⟨f, rfl⟩ : ∃ g', f = g' + 1 := ⟨f - 1, by omega⟩
    have ng := nI_ge (show s < cnt by omega) (show cnt < 2 ^ 31 by omega)
    obtain ⟨bA, bI, bJ⟩ := hB
    have y0 : (7 : Int32) * nI s = nI (7 * s) := l7' s
    have y3 : nI (7 * s) + 3 = nI (7 * s + 3) := nI_add _ 3
    have y4 : nI (7 * s) + 4 = nI (7 * s + 4) := nI_add _ 4
    have y5 : nI (7 * s) + 5 = nI (7 * s + 5) := nI_add _ 5
    -- one slot, with its has-row h9
    have one : ∀ h9 : Int32, h9 = (if M (7 * s + 4) = 0 then 1 else 0) → ∃ (X' : Nat → Nat → Int32) (J' : Nat → Int64), fn_X12_make_b207 (fn_X12_make_b104 f) (mz_RH q sz (mz_tw rs (nI m) (mz_xX (mz_xX (mz_xX (mz_xX X 35 (16 * m + s) (M (7 * s))) 36 (16 * m + s) (M (7 * s + 3))) 37 (16 * m + s) (M (7 * s + 4))) 38 (16 * m + s) (M (7 * s + 5))) J)) (some q) (nI s) (nI (16 * m + s)) (some (q + 25)) (nI (16 * m + s)) h9 = some (nI m, mz_RH q sz (mz_tw rs (nI (m + 1)) X' J'), 0, 0) ∧ (∀ t, t < cnt → mk_C M (16 * m + t) t X' J') ∧ tw_B rs (16 * m) X' J' ∧ X' 33 = X 33 ∧ X' 34 = X 34 := by
      intro h9 e9
      have z9 : h9 &&& 1 = h9 := by
        rw [e9]
        split <;> decide
      have CL := rs_clear' q sz (mz_tw rs (nI m) (mz_xX (mz_xX (mz_xX (mz_xX (mz_xX (mz_xX X 35 (16 * m + s) (M (7 * s))) 36 (16 * m + s) (M (7 * s + 3))) 37 (16 * m + s) (M (7 * s + 4))) 38 (16 * m + s) (M (7 * s + 5))) 39 (16 * m + s) h9) 40 (16 * m + s) 1) J) (Q := 16 * m + s) (B := 0) (N := 1) (by omega) (by omega)
      rw [tw_q3] at CL
      have e36 : (mz_tw rs (nI m) (mz_xX (mz_xX (mz_xX (mz_xX (mz_xX (mz_xX X 35 (16 * m + s) (M (7 * s))) 36 (16 * m + s) (M (7 * s + 3))) 37 (16 * m + s) (M (7 * s + 4))) 38 (16 * m + s) (M (7 * s + 5))) 39 (16 * m + s) h9) 40 (16 * m + s) 1) J).2.1 36 (16 * m + s) = M (7 * s + 3) := pk_us
      rw [e36] at CL
      have CL' : fn_X12_clear (mz_RH q sz (mz_tw rs (nI m) (mz_xX (mz_xX (mz_xX (mz_xX (mz_xX (mz_xX X 35 (16 * m + s) (M (7 * s))) 36 (16 * m + s) (M (7 * s + 3))) 37 (16 * m + s) (M (7 * s + 4))) 38 (16 * m + s) (M (7 * s + 5))) 39 (16 * m + s) h9) 40 (16 * m + s) 1) J)) (some q) (nI (16 * m + s)) 0 1 = some ((), mz_RH q sz (mz_tw rs (nI m) (mz_xX (mz_xX (mz_xX (mz_xX (mz_xX (mz_xX X 35 (16 * m + s) (M (7 * s))) 36 (16 * m + s) (M (7 * s + 3))) 37 (16 * m + s) (M (7 * s + 4))) 38 (16 * m + s) (M (7 * s + 5))) 39 (16 * m + s) h9) 40 (16 * m + s) 1) (fun p => if 900 * (16 * m + s) + 0 ≤ p ∧ p < 900 * (16 * m + s) + 0 + 1 then mz_z8 (M (7 * s + 3)) else J p)), 0, 0) := CL
      obtain ⟨X', J', k4, c4, b4, q33, q34⟩ := ih (s + 1) f (mz_xX (mz_xX (mz_xX (mz_xX (mz_xX (mz_xX X 35 (16 * m + s) (M (7 * s))) 36 (16 * m + s) (M (7 * s + 3))) 37 (16 * m + s) (M (7 * s + 4))) 38 (16 * m + s) (M (7 * s + 5))) 39 (16 * m + s) h9) 40 (16 * m + s) 1) (fun p => if 900 * (16 * m + s) + 0 ≤ p ∧ p < 900 * (16 * m + s) + 0 + 1 then mz_z8 (M (7 * s + 3)) else J p) (by omega) (by omega) (fun t ht => by
        rcases (show t = s ∨ t < s by omega) with rfl | z
        · exact ⟨pk_us, pk_us, pk_us, pk_us, (show upd (X 39) (16 * m + t) h9 (16 * m + t) = _ from pk_us.trans e9), pk_us, if_pos (by omega)⟩
        · obtain ⟨c1, c2, c3, c4, c5, c6, c7⟩ := hC t z
          refine ⟨?_, ?_, ?_, ?_, ?_, ?_, ?_⟩
          · exact (show upd (X 35) (16 * m + s) (M (7 * s)) (16 * m + t) = _ from (pk_un (by omega)).trans c1)
          · exact (show upd (X 36) (16 * m + s) (M (7 * s + 3)) (16 * m + t) = _ from (pk_un (by omega)).trans c2)
          · exact (show upd (X 37) (16 * m + s) (M (7 * s + 4)) (16 * m + t) = _ from (pk_un (by omega)).trans c3)
          · exact (show upd (X 38) (16 * m + s) (M (7 * s + 5)) (16 * m + t) = _ from (pk_un (by omega)).trans c4)
          · exact (show upd (X 39) (16 * m + s) h9 (16 * m + t) = _ from (pk_un (by omega)).trans c5)
          · exact (show upd (X 40) (16 * m + s) 1 (16 * m + t) = _ from (pk_un (by omega)).trans c6)
          · exact (if_neg (by omega)).trans c7) ⟨fun p hp => by
        obtain ⟨c1, c2, c3, c4, c5, c6⟩ := bA p hp
        refine ⟨?_, ?_, ?_, ?_, ?_, ?_⟩
        · exact (show upd (X 35) (16 * m + s) (M (7 * s)) p = _ from (pk_un (by omega)).trans c1)
        · exact (show upd (X 36) (16 * m + s) (M (7 * s + 3)) p = _ from (pk_un (by omega)).trans c2)
        · exact (show upd (X 37) (16 * m + s) (M (7 * s + 4)) p = _ from (pk_un (by omega)).trans c3)
        · exact (show upd (X 38) (16 * m + s) (M (7 * s + 5)) p = _ from (pk_un (by omega)).trans c4)
        · exact (show upd (X 39) (16 * m + s) h9 p = _ from (pk_un (by omega)).trans c5)
        · exact (show upd (X 40) (16 * m + s) 1 p = _ from (pk_un (by omega)).trans c6), bI, fun p hp => (if_neg (by omega)).trans (bJ p hp)⟩
      rw [show nI (s + 1) = nI s + 1 from (nI_add s 1).symm] at k4
      refine ⟨X', J', ?_, c4, b4, q33, q34⟩
      simp only [fn_X12_make_b207, rw_39, rr_40, rw_40, ix_nI (show 16 * m + s < 960 by omega) (show 960 < 2 ^ 31 by omega), cl_nI (show 16 * m + s < 2 ^ 31 by omega), z9, tw_39, tw_40, mz_RH_is, CL', k4, zo_s, zc_t, zl_0, if_true]
    have r37 : (mz_tw rs (nI m) (mz_xX (mz_xX (mz_xX (mz_xX X 35 (16 * m + s) (M (7 * s))) 36 (16 * m + s) (M (7 * s + 3))) 37 (16 * m + s) (M (7 * s + 4))) 38 (16 * m + s) (M (7 * s + 5))) J).2.1 37 (16 * m + s) = M (7 * s + 4) := pk_us
    by_cases h4 : M (7 * s + 4) = 0
    · obtain ⟨X', J', k4, r⟩ := one 1 (by rw [if_pos h4])
      refine ⟨X', J', ?_, r⟩
      rw [fn_X12_make_b104]
      simp only [rg_24, x24, if_neg ng, rg_32, x32, l16, rr_35, rw_35, rr_36, rw_36, rr_25, ra_25, rr_37, ra_37, rw_37, rr_38, rw_38, rr_39, y0, y3, y4, y5, ix_nI (show 7 * s < 217 by omega) (show 217 < 2 ^ 31 by omega), cl_nI (show 7 * s < 2 ^ 31 by omega), ix_nI (show 7 * s + 3 < 217 by omega) (show 217 < 2 ^ 31 by omega), cl_nI (show 7 * s + 3 < 2 ^ 31 by omega), ix_nI (show 7 * s + 4 < 217 by omega) (show 217 < 2 ^ 31 by omega), cl_nI (show 7 * s + 4 < 2 ^ 31 by omega), ix_nI (show 7 * s + 5 < 217 by omega) (show 217 < 2 ^ 31 by omega), cl_nI (show 7 * s + 5 < 2 ^ 31 by omega), ix_nI (show 16 * m + s < 960 by omega) (show 960 < 2 ^ 31 by omega), cl_nI (show 16 * m + s < 2 ^ 31 by omega), x25, tw_35, tw_36, tw_37, tw_38, r37, if_pos h4, k4, zo_s, if_true]
    · obtain ⟨X', J', k4, r⟩ := one 0 (by rw [if_neg h4])
      refine ⟨X', J', ?_, r⟩
      rw [fn_X12_make_b104]
      simp only [rg_24, x24, if_neg ng, rg_32, x32, l16, rr_35, rw_35, rr_36, rw_36, rr_25, ra_25, rr_37, ra_37, rw_37, rr_38, rw_38, rr_39, y0, y3, y4, y5, ix_nI (show 7 * s < 217 by omega) (show 217 < 2 ^ 31 by omega), cl_nI (show 7 * s < 2 ^ 31 by omega), ix_nI (show 7 * s + 3 < 217 by omega) (show 217 < 2 ^ 31 by omega), cl_nI (show 7 * s + 3 < 2 ^ 31 by omega), ix_nI (show 7 * s + 4 < 217 by omega) (show 217 < 2 ^ 31 by omega), cl_nI (show 7 * s + 4 < 2 ^ 31 by omega), ix_nI (show 7 * s + 5 < 217 by omega) (show 217 < 2 ^ 31 by omega), cl_nI (show 7 * s + 5 < 2 ^ 31 by omega), ix_nI (show 16 * m + s < 960 by omega) (show 960 < 2 ^ 31 by omega), cl_nI (show 16 * m + s < 2 ^ 31 by omega), x25, tw_35, tw_36, tw_37, tw_38, r37, if_neg h4, k4, zo_s, if_true]
theorem tb_N_nodup (L : Nat → List (Nat × Nat)) : ∀ k, (tb_N L k).Nodup
  | 0 => List.nodup_nil
  | k + 1 => by
    rw [tb_N]
    split
    · rw [List.append_nil]
      exact tb_N_nodup L k
    · refine List.nodup_append.mpr ⟨tb_N_nodup L k, by simp, fun a ha b hb => ?_⟩
      obtain rfl := List.mem_singleton.mp hb
      have := (tb_N_mem L _ a ha).1
      omega
theorem tb_s_mem (rs : mz_RS) (a b : Int32) (c k : Nat) : ∀ s q, q ∈ tb_s rs a b c k s → q.1 = c ∧ q.2 < s ∧ tb_o rs a b c q.2 k = true
  | 0, _, h => absurd h List.not_mem_nil
  | s + 1, q, h => by
    rw [tb_s] at h
    rcases List.mem_append.mp h with z | z
    · obtain ⟨h1, h2, h3⟩ := tb_s_mem rs a b c k s q z
      exact ⟨h1, by omega, h3⟩
    · split at z
      · rename_i ho
        obtain rfl := List.mem_singleton.mp z
        exact ⟨rfl, Nat.lt_succ_self _, ho⟩
      · exact absurd z List.not_mem_nil
theorem tb_f_mem (rs : mz_RS) (a b : Int32) (ws : List Nat) (k : Nat) {q : Nat × Nat} (h : q ∈ tb_f rs a b ws k) : q.1 ∈ ws ∧ q.2 < 3 ∧ tb_o rs a b q.1 q.2 k = true := by
  unfold tb_f at h
  obtain ⟨c, hc, hq⟩ := List.mem_flatMap.mp h
  obtain ⟨h1, h2, h3⟩ := tb_s_mem rs a b c k 3 q hq
  exact ⟨by rw [h1]; exact hc, h2, by rw [h1]; exact h3⟩
/-- what the first of a name is: a lane, a depth -/
theorem tb_first {n : Nat} {rs : mz_RS} {lv : Nat → Int32} {mk : Nat → Nat} {mm : Nat → Nat → Nat × Nat} (wc : mz_wc n rs lv) (wm : mz_wm n rs mk mm) {ws : List Nat} (hw : ∀ y, y ∈ ws → y < n) {k : Nat} (hk : k < 31) (hne : tb_f rs 3 0 ws k ≠ []) : (∃ l, l < 9 ∧ tb_val rs k (tb_f rs 3 0 ws k) 3 = nI l) ∧ ∃ d, d < 3 ∧ tb_val rs k (tb_f rs 3 0 ws k) 4 = nI d := by
  cases hL : tb_f rs 3 0 ws k with
  | nil => exact absurd hL hne
  | cons q r =>
    obtain ⟨h1, h2, h3⟩ := tb_f_mem rs 3 0 ws k (q := q) (by rw [hL]; exact List.mem_cons_self ..)
    have hc := hw _ h1
    have h10 : rs.2.1 10 ((3 * q.1 + q.2) * 31 + k) = 1 := by
      unfold tb_o at h3
      exact of_decide_eq_true (Bool.and_eq_true_iff.mp h3).1
    obtain ⟨⟨l, hl, el, hb⟩, ⟨d, hd, ed⟩, -⟩ := wm.2.2.2.2 q.1 hc q.2 k h2 hk h10
    refine ⟨?_, d, hd, ed⟩
    show ∃ l, l < 9 ∧ mz_lane rs q.1 (tb_p q.1 q.2 k) = nI l
    unfold mz_lane
    rw [show rs.2.1 11 (tb_p q.1 q.2 k) = nI l from el]
    have q8 : 8 < nI l ↔ 8 < l := nI_ltI (a := 8) (by omega) (by omega)
    by_cases h8 : 8 < l
    · obtain ⟨v, hv, e7, hbd⟩ := wc.2.2.2.2.2.2.1 q.1 hc
      have hb' := hb h8
      rw [e7] at hb'
      have hv2 : l - 9 < v := by
        rcases Nat.lt_or_ge (l - 9) v with z | z
        · exact z
        · exact absurd hb' (nI_nlt z (by omega))
      have e9 : nI l - 9 = nI (l - 9) := by
        rcases (show l = 9 ∨ l = 10 by omega) with rfl | rfl <;> decide
      obtain ⟨x, hx, ex⟩ := hbd (l - 9) hv2
      exact ⟨x, by omega, by rw [if_pos (q8.mpr h8), e9, cl_nI (by omega), ex]⟩
    · exact ⟨l, by omega, by rw [if_neg (fun z => h8 (q8.mp z))]⟩

/-! what the members of one name come to -/
def tb_p (c s k : Nat) : Nat := (3 * c + s) * 31 + k
def tb_l (rs : mz_RS) (k : Nat) (q : Nat × Nat) : Int32 := mz_lane rs q.1 (tb_p q.1 q.2 k)
def tb_d (rs : mz_RS) (k : Nat) (q : Nat × Nat) : Int32 := rs.2.1 12 (tb_p q.1 q.2 k)
def tb_w (rs : mz_RS) (k : Nat) (q : Nat × Nat) : Int32 := rs.2.1 13 (tb_p q.1 q.2 k)
def tb_k (rs : mz_RS) (a b : Int32) (c s k : Nat) : Bool := decide ((rs.2.1 13 (tb_p c s k) &&& a) = b)
def tb_o (rs : mz_RS) (a b : Int32) (c s k : Nat) : Bool := decide (rs.2.1 10 (tb_p c s k) = 1) && tb_k rs a b c s k
def tb_s (rs : mz_RS) (a b : Int32) (c k : Nat) : Nat → List (Nat × Nat)
  | 0 => []
  | s + 1 => tb_s rs a b c k s ++ (if tb_o rs a b c s k then [(c, s)] else [])
def tb_f (rs : mz_RS) (a b : Int32) (ws : List Nat) (k : Nat) : List (Nat × Nat) := ws.flatMap fun c => tb_s rs a b c k 3
def tb_u (rs : mz_RS) (k : Nat) (q : Nat × Nat) : List (Nat × Nat) → Int32
  | [] => -9
  | p :: r => if tb_l rs k q = tb_l rs k p ∧ tb_d rs k q = tb_d rs k p then tb_u rs k q r else nI p.1
def tb_or (rs : mz_RS) (k : Nat) (L : List (Nat × Nat)) : Int32 := L.foldl (fun a q => a ||| tb_w rs k q) 0
def tb_E (rs : mz_RS) (k : Nat) (L : List (Nat × Nat)) (x : Nat → Int32) : Prop := x 6 = nI L.length ∧ x 5 = tb_or rs k L ∧ match L with
  | [] => x 7 = -9
  | q :: r => x 1 = nI q.1 ∧ x 2 = nI q.2 ∧ x 3 = tb_l rs k q ∧ x 4 = tb_d rs k q ∧ x 7 = tb_u rs k q r
theorem tb_or_app (rs : mz_RS) (k : Nat) (L : List (Nat × Nat)) (q : Nat × Nat) : tb_or rs k (L ++ [q]) = tb_or rs k L ||| tb_w rs k q := by
  unfold tb_or
  rw [List.foldl_append]
  rfl
theorem tb_u_app (rs : mz_RS) (k : Nat) (q p : Nat × Nat) : ∀ r : List (Nat × Nat), (∀ z ∈ r, z.1 < 40) → tb_u rs k q (r ++ [p]) = if tb_u rs k q r = -9 then (if tb_l rs k q = tb_l rs k p ∧ tb_d rs k q = tb_d rs k p then -9 else nI p.1) else tb_u rs k q r := by
  intro r
  induction r with
  | nil =>
    intro _
    rfl
  | cons z r ih =>
    intro hb
    have I := ih fun z hz => hb z (List.mem_cons_of_mem _ hz)
    show (if _ then tb_u rs k q (r ++ [p]) else nI z.1) = if (if _ then tb_u rs k q r else nI z.1) = -9 then _ else (if _ then tb_u rs k q r else nI z.1)
    by_cases h : tb_l rs k q = tb_l rs k z ∧ tb_d rs k q = tb_d rs k z
    · rw [if_pos h, if_pos h, I]
    · have := nI_ne9 (show z.1 < 2 ^ 31 by have := hb z (List.mem_cons_self ..); omega)
      rw [if_neg h, if_neg h, if_neg this]
section
variable {VB : Nat} {n m : Nat} {rs : mz_RS} {ad : mz_T → Nat} {lv : Nat → Int32} {mk : Nat → Nat} {mm : Nat → Nat → Nat × Nat} {gi : Nat → Nat → Nat → Int32} {go : Nat → Nat → Option Nat} {gj : Nat → Nat → Int64} {h : mz_H}
variable {t : Nat} {F : Nat → Int32} {E : Nat → Nat → Int32} {G : Nat → Option Nat}
theorem cs_take75 (ht : t < 2) (hR : mz_Rp VB n m (mz_rt t rs F) ad lv mk mm (mz_gt t gi F E) (mz_ot t go G) gj h) {c i s k : Nat} (hk : k < 31) (hc : c < n) (hi : i < mk c) (em : mm c i = (s, k)) : ∃ h', fn_X1_take_b75 h (some (ad (15, t, k, 0))) (some (ad (11, c, i, 0))) = some ((), h', 0, 0) ∧ mz_Rp VB n m (mz_rt t rs F) ad lv mk mm (mz_gt t gi F (mz_e2 (mz_e2 E k 5 (E k 5 ||| tb_w rs k (c, s))) k 6 (E k 6 + 1))) (mz_ot t go G) gj h' ∧ h'.2 = h.2 := by
  obtain ⟨h1, k1, R1, s1⟩ := cw_te ht hR hk (x := 5) (by omega) (by omega) (E k 5 ||| tb_w rs k (c, s))
  have g6 := tr_e ht R1 hk (x := 6) (by omega) (by omega)
  rw [e2_ne _ _ (by omega)] at g6
  obtain ⟨h2, k2, R2, s2⟩ := cw_te ht R1 hk (x := 6) (by omega) (by omega) (E k 6 + 1)
  have g4 : mz_fI h (some (ad (11, c, i, 0))) 2 4 = some (tb_w rs k (c, s)) := by
    rw [cg_11_4 hR hc hi, em]
    rfl
  exact ⟨h2, by simp only [fn_X1_take_b75, tr_e ht hR hk (x := 5) (by omega) (by omega), g4, k1, g6, k2, zo_s, zc_t, zl_0, zr_e, z_0, z_1, if_true], R2, by omega⟩
theorem cs_take1 (ht : t < 2) (hR : mz_Rp VB n m (mz_rt t rs F) ad lv mk mm (mz_gt t gi F E) (mz_ot t go G) gj h) {c i s k : Nat} (hk : k < 31) (hc : c < n) (hi : i < mk c) (em : mm c i = (s, k)) {L : List (Nat × Nat)} (hL : tb_E rs k L (E k)) (hl : L.length < 2 ^ 30) (hb : ∀ q ∈ L, q.1 < 40) : ∃ h' E', fn_X1_take h (some (ad (15, t, k, 0))) (nI c) (some (ad (11, c, i, 0))) = some ((), h', 0, 0) ∧ mz_Rp VB n m (mz_rt t rs F) ad lv mk mm (mz_gt t gi F E') (mz_ot t go G) gj h' ∧ h'.2 = h.2 ∧ tb_E rs k (L ++ [(c, s)]) (E' k) ∧ ∀ k', k' ≠ k → E' k' = E k' := by
  have m0 : mz_fI h (some (ad (11, c, i, 0))) 2 0 = some (nI s) := by rw [cg_11_0 hR hc hi, em]
  have m2 : mz_fI h (some (ad (11, c, i, 0))) 2 2 = some (tb_l rs k (c, s)) := by
    rw [cg_11_2 hR hc hi, em]
    rfl
  have m3 : mz_fI h (some (ad (11, c, i, 0))) 2 3 = some (tb_d rs k (c, s)) := by
    rw [cg_11_3 hR hc hi, em]
    rfl
  have g6 := tr_e ht hR hk (x := 6) (by omega) (by omega)
  have g7 := tr_e ht hR hk (x := 7) (by omega) (by omega)
  have g3 := tr_e ht hR hk (x := 3) (by omega) (by omega)
  have g4 := tr_e ht hR hk (x := 4) (by omega) (by omega)
  have ne : ∀ (E : Nat → Nat → Int32) (x : Nat) (v : Int32) (k' : Nat), k' ≠ k → mz_e2 E k x v k' = E k' := fun E x v k' hk' => funext fun y => if_neg fun z => hk' z.1
  cases L with
  | nil =>
    obtain ⟨l6, l5, l7⟩ := hL
    have z6 : E k 6 = 0 := l6
    obtain ⟨h1, k1, R1, s1⟩ := cw_te ht hR hk (x := 1) (by omega) (by omega) (nI c)
    have m0' : mz_fI h1 (some (ad (11, c, i, 0))) 2 0 = some (nI s) := by rw [cg_11_0 R1 hc hi, em]
    obtain ⟨h2, k2, R2, s2⟩ := cw_te ht R1 hk (x := 2) (by omega) (by omega) (nI s)
    have m2' : mz_fI h2 (some (ad (11, c, i, 0))) 2 2 = some (tb_l rs k (c, s)) := by
      rw [cg_11_2 R2 hc hi, em]
      rfl
    obtain ⟨h3, k3, R3, s3⟩ := cw_te ht R2 hk (x := 3) (by omega) (by omega) (tb_l rs k (c, s))
    have m3' : mz_fI h3 (some (ad (11, c, i, 0))) 2 3 = some (tb_d rs k (c, s)) := by
      rw [cg_11_3 R3 hc hi, em]
      rfl
    obtain ⟨h4, k4, R4, s4⟩ := cw_te ht R3 hk (x := 4) (by omega) (by omega) (tb_d rs k (c, s))
    obtain ⟨h5, k5, R5, s5⟩ := cs_take75 ht R4 hk hc hi em
    refine ⟨h5, _, ?_, R5, by omega, ?_, fun k' hk' => ?_⟩
    · simp only [fn_X1_take, g6, z6, k1, m0', k2, m2', k3, m3', k4, k5, zo_s, if_true]
    · have l7' : E k 7 = -9 := l7
      have l5' : E k 5 = 0 := l5
      refine ⟨?_, ?_, ?_, ?_, ?_, ?_, ?_⟩
      · simp [mz_e2, z6]
        rfl
      · simp [mz_e2, l5', tb_or]
      · simp [mz_e2]
      · simp [mz_e2]
      · simp [mz_e2]
      · simp [mz_e2]
      · simp [mz_e2, l7', tb_u]
    · rw [ne _ _ _ _ hk', ne _ _ _ _ hk', ne _ _ _ _ hk', ne _ _ _ _ hk', ne _ _ _ _ hk', ne _ _ _ _ hk']
  | cons q r =>
    obtain ⟨l6, l5, l1, l2, l3, l4, l7⟩ := hL
    have n6 : ¬ E k 6 = 0 := by
      rw [l6]
      exact nI_ne0 (Nat.succ_pos _) (by omega)
    have ln : nI (r.length + 1) + 1 = nI (r.length + 1 + 1) := nI_add _ 1
    have U := tb_u_app rs k q (c, s) r fun z hz => hb z (List.mem_cons_of_mem _ hz)
    have fin : ∀ h1 E1, mz_Rp VB n m (mz_rt t rs F) ad lv mk mm (mz_gt t gi F E1) (mz_ot t go G) gj h1 → h1.2 = h.2 → fn_X1_take h (some (ad (15, t, k, 0))) (nI c) (some (ad (11, c, i, 0))) = fn_X1_take_b75 h1 (some (ad (15, t, k, 0))) (some (ad (11, c, i, 0))) → (∀ x, x < 7 → E1 k x = E k x) → E1 k 7 = tb_u rs k q (r ++ [(c, s)]) → (∀ k', k' ≠ k → E1 k' = E k') → ∃ h' E', fn_X1_take h (some (ad (15, t, k, 0))) (nI c) (some (ad (11, c, i, 0))) = some ((), h', 0, 0) ∧ mz_Rp VB n m (mz_rt t rs F) ad lv mk mm (mz_gt t gi F E') (mz_ot t go G) gj h' ∧ h'.2 = h.2 ∧ tb_E rs k (q :: r ++ [(c, s)]) (E' k) ∧ ∀ k', k' ≠ k → E' k' = E k' := by
      intro h1 E1 R1 s1 e1 x1 x7 x'
      obtain ⟨h5, k5, R5, s5⟩ := cs_take75 ht R1 hk hc hi em
      refine ⟨h5, _, by rw [e1, k5], R5, by omega, ?_, fun k' hk' => ?_⟩
      · have a6 : E1 k 6 = nI (r.length + 1) := (x1 6 (by omega)).trans l6
        have a5 : E1 k 5 = tb_or rs k (q :: r) := (x1 5 (by omega)).trans l5
        have a1 := x1 1 (by omega)
        have a2 := x1 2 (by omega)
        have a3 := x1 3 (by omega)
        have a4 := x1 4 (by omega)
        refine ⟨?_, ?_, ?_, ?_, ?_, ?_, ?_⟩
        · rw [e2_at, a6, ln]
          simp
        · rw [e2_ne _ _ (by omega), e2_at, a5, tb_or_app]
        · rw [e2_ne _ _ (by omega), e2_ne _ _ (by omega), a1, l1]
        · rw [e2_ne _ _ (by omega), e2_ne _ _ (by omega), a2, l2]
        · rw [e2_ne _ _ (by omega), e2_ne _ _ (by omega), a3, l3]
        · rw [e2_ne _ _ (by omega), e2_ne _ _ (by omega), a4, l4]
        · rw [e2_ne _ _ (by omega), e2_ne _ _ (by omega), x7]
          rfl
      · rw [ne _ _ _ _ hk', ne _ _ _ _ hk']
        exact x' k' hk'
    have b70 : ¬ (tb_l rs k q = tb_l rs k (c, s) ∧ tb_d rs k q = tb_d rs k (c, s)) → E k 7 = -9 → fn_X1_take h (some (ad (15, t, k, 0))) (nI c) (some (ad (11, c, i, 0))) = fn_X1_take_b70 h (some (ad (15, t, k, 0))) (nI c) (some (ad (11, c, i, 0))) → ∃ h' E', fn_X1_take h (some (ad (15, t, k, 0))) (nI c) (some (ad (11, c, i, 0))) = some ((), h', 0, 0) ∧ mz_Rp VB n m (mz_rt t rs F) ad lv mk mm (mz_gt t gi F E') (mz_ot t go G) gj h' ∧ h'.2 = h.2 ∧ tb_E rs k (q :: r ++ [(c, s)]) (E' k) ∧ ∀ k', k' ≠ k → E' k' = E k' := by
      intro hd h7 e
      obtain ⟨h1, k1, R1, s1⟩ := cw_te ht hR hk (x := 7) (by omega) (by omega) (nI c)
      refine fin h1 _ R1 s1 (by rw [e, fn_X1_take_b70, k1, zo_s]) (fun x hx => e2_ne _ _ (by omega)) ?_ (fun k' hk' => ne _ _ _ _ hk')
      rw [e2_at, U, if_pos (l7 ▸ h7), if_neg hd]
    by_cases h7 : E k 7 = -9
    · by_cases d3 : tb_l rs k q = tb_l rs k (c, s)
      · have d3' : E k 3 = tb_l rs k (c, s) := l3.trans d3
        by_cases d4 : tb_d rs k q = tb_d rs k (c, s)
        · have d4' : E k 4 = tb_d rs k (c, s) := l4.trans d4
          refine fin h E hR rfl ?_ (fun _ _ => rfl) ?_ (fun _ _ => rfl)
          · simp only [fn_X1_take, g6, if_neg n6, g7, if_pos h7, g3, m2, if_pos d3', g4, m3, if_pos d4', zo_s]
          · rw [U, if_pos (l7 ▸ h7), if_pos ⟨d3, d4⟩, h7]
        · have d4' : ¬ E k 4 = tb_d rs k (c, s) := fun z => d4 (l4.symm.trans z)
          refine b70 (fun z => d4 z.2) h7 ?_
          simp only [fn_X1_take, g6, if_neg n6, g7, if_pos h7, g3, m2, if_pos d3', g4, m3, if_neg d4', zo_s]
      · have d3' : ¬ E k 3 = tb_l rs k (c, s) := fun z => d3 (l3.symm.trans z)
        refine b70 (fun z => d3 z.1) h7 ?_
        simp only [fn_X1_take, g6, if_neg n6, g7, if_pos h7, g3, m2, if_neg d3', zo_s]
    · refine fin h E hR rfl ?_ (fun _ _ => rfl) ?_ (fun _ _ => rfl)
      · simp only [fn_X1_take, g6, if_neg n6, g7, if_neg h7, zo_s]
      · rw [U, if_neg (fun z => h7 (l7.trans z)), l7]
end

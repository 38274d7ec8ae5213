/-! the tables (0 what was scanned, 1 the draft) as a state of their own: F (count, rule, name, class, other), E (entries by name), G (entries in order) -/
def mz_rt (t : Nat) (rs : mz_RS) (F : Nat → Int32) : mz_RS := (fun k => if Nat.ble 26 k && (Nat.ble k 30 && t == 0) then F (if k = 30 then 0 else k - 25) else rs.1 k, rs.2)
def mz_gt (t : Nat) (gi : Nat → Nat → Nat → Int32) (F : Nat → Int32) (E : Nat → Nat → Int32) : Nat → Nat → Nat → Int32 := fun k i j => if k == 1 && t != 0 then F i else if k == 2 + t then E i j else gi k i j
def mz_ot (t : Nat) (go : Nat → Nat → Option Nat) (G : Nat → Option Nat) : Nat → Nat → Option Nat := fun k c => if k == t then G c else go k c
def mz_e2 (E : Nat → Nat → Int32) (k x : Nat) (v : Int32) : Nat → Nat → Int32 := fun a b => if a = k ∧ b = x then v else E a b
theorem e2_at (E : Nat → Nat → Int32) (k x : Nat) (v : Int32) : mz_e2 E k x v k x = v := if_pos ⟨rfl, rfl⟩
theorem e2_ne (E : Nat → Nat → Int32) {k x a b : Nat} (v : Int32) (h : ¬ (a = k ∧ b = x)) : mz_e2 E k x v a b = E a b := if_neg h
section
variable {VB : Nat} {n m : Nat} {rs : mz_RS} {ad : mz_T → Nat} {lv : Nat → Int32} {mk : Nat → Nat} {mm : Nat → Nat → Nat × Nat} {gi : Nat → Nat → Nat → Int32} {go : Nat → Nat → Option Nat} {gj : Nat → Nat → Int64} {h : mz_H}
variable {t : Nat} {F : Nat → Int32} {E : Nat → Nat → Int32} {G : Nat → Option Nat}
theorem keep12 {rs' : mz_RS} {gi' : Nat → Nat → Nat → Int32} {i : Nat} (hi : i = 0 ∧ (∀ x, 26 ≤ x → x ≤ 30 → rs'.1 x = rs.1 x) ∨ i = 1 ∧ (∀ x, x < 5 → gi' 1 x 0 = gi 1 x 0)) (go' : Nat → Nat → Option Nat) (j k : Nat) : mz_f12 n m rs' ad lv mk mm gi' go' gj i j k = mz_f12 n m rs ad lv mk mm gi go gj i j k := by
  unfold mz_f12
  rcases hi with ⟨rfl, h⟩ | ⟨rfl, h⟩
  · simp only [if_true, h 30 (by omega) (by omega), h 26 (by omega) (by omega), h 27 (by omega) (by omega), h 28 (by omega) (by omega), h 29 (by omega) (by omega)]
  · simp only [show ¬ (1 : Nat) = 0 from by omega, if_false, h 0 (by omega), h 1 (by omega), h 2 (by omega), h 3 (by omega), h 4 (by omega)]
theorem tr_f (ht : t < 2) (hR : mz_Rp VB n m (mz_rt t rs F) ad lv mk mm (mz_gt t gi F E) (mz_ot t go G) gj h) {x : Nat} (hx : x < 5) : mz_fI h (some (ad (12, t, 0, 0))) 6 (2 + x) = some (F x) := by
  rcases (show t = 0 ∨ t = 1 by omega) with rfl | rfl <;> rcases (show x = 0 ∨ x = 1 ∨ x = 2 ∨ x = 3 ∨ x = 4 by omega) with rfl | rfl | rfl | rfl | rfl
  · exact cg_12_2 hR (i := 0) (by omega)
  · exact cg_12_3 hR (i := 0) (by omega)
  · exact cg_12_4 hR (i := 0) (by omega)
  · exact cg_12_5 hR (i := 0) (by omega)
  · exact cg_12_6 hR (i := 0) (by omega)
  · exact cg_12_2 hR (i := 1) (by omega)
  · exact cg_12_3 hR (i := 1) (by omega)
  · exact cg_12_4 hR (i := 1) (by omega)
  · exact cg_12_5 hR (i := 1) (by omega)
  · exact cg_12_6 hR (i := 1) (by omega)
theorem tr_e (ht : t < 2) (hR : mz_Rp VB n m (mz_rt t rs F) ad lv mk mm (mz_gt t gi F E) (mz_ot t go G) gj h) {k x : Nat} (hk : k < 31) (h1 : 1 ≤ x) (hx : x ≤ 7) : mz_fI h (some (ad (15, t, k, 0))) 1 x = some (E k x) := by
  rcases (show t = 0 ∨ t = 1 by omega) with rfl | rfl <;> rcases (show x = 1 ∨ x = 2 ∨ x = 3 ∨ x = 4 ∨ x = 5 ∨ x = 6 ∨ x = 7 by omega) with rfl | rfl | rfl | rfl | rfl | rfl | rfl
  · exact cg_15_1 hR (i := 0) (by omega) hk
  · exact cg_15_2 hR (i := 0) (by omega) hk
  · exact cg_15_3 hR (i := 0) (by omega) hk
  · exact cg_15_4 hR (i := 0) (by omega) hk
  · exact cg_15_5 hR (i := 0) (by omega) hk
  · exact cg_15_6 hR (i := 0) (by omega) hk
  · exact cg_15_7 hR (i := 0) (by omega) hk
  · exact cg_15_1 hR (i := 1) (by omega) hk
  · exact cg_15_2 hR (i := 1) (by omega) hk
  · exact cg_15_3 hR (i := 1) (by omega) hk
  · exact cg_15_4 hR (i := 1) (by omega) hk
  · exact cg_15_5 hR (i := 1) (by omega) hk
  · exact cg_15_6 hR (i := 1) (by omega) hk
  · exact cg_15_7 hR (i := 1) (by omega) hk
theorem tr_g (ht : t < 2) (hR : mz_Rp VB n m (mz_rt t rs F) ad lv mk mm (mz_gt t gi F E) (mz_ot t go G) gj h) {c : Nat} (hc : c < 31) : mz_aR h (some (ad (14, t, 0, 0))) 11 (nI c) = some ((G c).map fun z => ad (15, t, z, 0)) := by
  rw [ca_14 hR ht, ix_nI hc (by omega), if_pos rfl, cl_nI (by omega)]
  rcases (show t = 0 ∨ t = 1 by omega) with rfl | rfl <;> rfl
theorem tr_b (ht : t < 2) (hR : mz_Rp VB n m (mz_rt t rs F) ad lv mk mm (mz_gt t gi F E) (mz_ot t go G) gj h) {c : Nat} (hc : c < 31) : mz_aR h (some (ad (13, t, 0, 0))) 11 (nI c) = some (some (ad (15, t, c, 0))) := by
  rw [ca_13 hR ht, ix_nI hc (by omega), if_pos rfl, cl_nI (by omega)]
  exact congrArg some (if_pos hc)
theorem cw_tf (ht : t < 2) (hR : mz_Rp VB n m (mz_rt t rs F) ad lv mk mm (mz_gt t gi F E) (mz_ot t go G) gj h) {x : Nat} (hx : x < 5) (v : Int32) : ∃ h', mz_pF h (some (ad (12, t, 0, 0))) 6 (2 + x) (.int v) = some h' ∧ mz_Rp VB n m (mz_rt t rs (upd F x v)) ad lv mk mm (mz_gt t gi (upd F x v) E) (mz_ot t go G) gj h' ∧ h'.2 = h.2 := by
  have c12 := cc_12 hR (i := t) ht
  have k12 : ∀ F', ∀ i j k, ¬ (12 = 12 ∧ i = t ∧ j = 0 ∧ k = 0) → mz_f12 n m (mz_rt t rs F') ad lv mk mm (mz_gt t gi F' E) (mz_ot t go G) gj i j k = mz_f12 n m (mz_rt t rs F) ad lv mk mm (mz_gt t gi F E) (mz_ot t go G) gj i j k ∨ mz_f12 n m (mz_rt t rs F') ad lv mk mm (mz_gt t gi F' E) (mz_ot t go G) gj i j k = none := fun F' i j k hne => by
    by_cases hq : i < 2 ∧ j = 0 ∧ k = 0
    · have hit : i ≠ t := fun e => hne ⟨rfl, e, hq.2⟩
      left
      rcases (show t = 0 ∨ t = 1 by omega) with rfl | rfl
      · obtain rfl : i = 1 := by omega
        apply keep12
        exact Or.inr ⟨rfl, fun x _ => rfl⟩
      · obtain rfl : i = 0 := by omega
        apply keep12
        refine Or.inl ⟨rfl, fun x h1 h2 => ?_⟩
        show (if _ && (_ && false) then _ else rs.1 x) = (if _ && (_ && false) then _ else rs.1 x)
        rw [Bool.and_false, Bool.and_false]
        rfl
    · exact Or.inr (if_neg hq)
  refine ⟨_, pF_of c12 (by have : 2 + x < 7 := by omega
                           exact this), hR.up 12 t 0 0 (Or.inl ?_) (cb_12 hR ht) ?_, rfl⟩
  · rcases (show t = 0 ∨ t = 1 by omega) with rfl | rfl <;> rcases (show x = 0 ∨ x = 1 ∨ x = 2 ∨ x = 3 ∨ x = 4 by omega) with rfl | rfl | rfl | rfl | rfl <;> rfl
  · rcases (show t = 0 ∨ t = 1 by omega) with rfl | rfl <;> (apply mz_hs <;> first | (exact fun _ _ _ _ => Or.inl rfl) | (intro _ _ _ _; left; apply keep15g <;> exact fun _ _ => rfl) | (exact k12 _))
theorem cw_te (ht : t < 2) (hR : mz_Rp VB n m (mz_rt t rs F) ad lv mk mm (mz_gt t gi F E) (mz_ot t go G) gj h) {k x : Nat} (hk : k < 31) (h1 : 1 ≤ x) (hx : x ≤ 7) (v : Int32) : ∃ h', mz_pF h (some (ad (15, t, k, 0))) 1 x (.int v) = some h' ∧ mz_Rp VB n m (mz_rt t rs F) ad lv mk mm (mz_gt t gi F (mz_e2 E k x v)) (mz_ot t go G) gj h' ∧ h'.2 = h.2 := by
  have c15 := cc_15 hR (i := t) ht hk
  have k15 : ∀ i j k', ¬ (15 = 15 ∧ i = t ∧ j = k ∧ k' = 0) → mz_f15 n m (mz_rt t rs F) ad lv mk mm (mz_gt t gi F (mz_e2 E k x v)) (mz_ot t go G) gj i j k' = mz_f15 n m (mz_rt t rs F) ad lv mk mm (mz_gt t gi F E) (mz_ot t go G) gj i j k' ∨ mz_f15 n m (mz_rt t rs F) ad lv mk mm (mz_gt t gi F (mz_e2 E k x v)) (mz_ot t go G) gj i j k' = none := fun i j k' hne => by
    by_cases hq : i < 2 ∧ j < 31 ∧ k' = 0
    · left
      have e : ∀ y, mz_gt t gi F (mz_e2 E k x v) (2 + i) j y = mz_gt t gi F E (2 + i) j y := fun y => by
        unfold mz_gt
        by_cases hit : i = t
        · have hjk : j ≠ k := fun e => hne ⟨rfl, hit, e, hq.2.2⟩
          rw [e2_ne E v (fun z => hjk z.1)]
        · have : (2 + i == 2 + t) = false := by simp [hit]
          rw [this]
          rfl
      unfold mz_f15
      rw [e, e, e, e, e, e, e]
    · exact Or.inr (if_neg hq)
  refine ⟨_, pF_of c15 (by have : x < 8 := by omega
                           exact this), hR.up 15 t k 0 (Or.inl ?_) (cb_15 hR ht hk) ?_, rfl⟩
  · show mz_f15 n m (mz_rt t rs F) ad lv mk mm (mz_gt t gi F (mz_e2 E k x v)) (mz_ot t go G) gj t k 0 = _
    have eg : ∀ (E' : Nat → Nat → Int32) y, mz_gt t gi F E' (2 + t) k y = E' k y := fun E' y => by
      unfold mz_gt
      have a1 : (2 + t == 1) = false := by
        rcases (show t = 0 ∨ t = 1 by omega) with rfl | rfl <;> rfl
      rw [a1, Bool.false_and, beq_self_eq_true]
      rfl
    rw [mz_f15, if_pos ⟨ht, hk, rfl⟩, eg, eg, eg, eg, eg, eg, eg, eg, eg, eg, eg, eg, eg, eg]
    rcases (show x = 1 ∨ x = 2 ∨ x = 3 ∨ x = 4 ∨ x = 5 ∨ x = 6 ∨ x = 7 by omega) with rfl | rfl | rfl | rfl | rfl | rfl | rfl <;> simp [mz_e2]
  · rcases (show t = 0 ∨ t = 1 by omega) with rfl | rfl <;> (apply mz_hs <;> first | (exact fun _ _ _ _ => Or.inl rfl) | (exact k15))
theorem cw_tg (ht : t < 2) (hR : mz_Rp VB n m (mz_rt t rs F) ad lv mk mm (mz_gt t gi F E) (mz_ot t go G) gj h) {c k : Nat} (hc : c < 31) (hk : k < 31) : ∃ h', mz_sR h (some (ad (14, t, 0, 0))) 11 (nI c) (some (ad (15, t, k, 0))) = some h' ∧ mz_Rp VB n m (mz_rt t rs F) ad lv mk mm (mz_gt t gi F E) (mz_ot t go (va_up G c (some k))) gj h' ∧ h'.2 = h.2 := by
  have c14 := cc_14 hR (i := t) ht
  refine ⟨_, sR_of c14 (ix_nI hc (by omega)) (by simp only [is_of (cc_15 hR ht hk), Bool.or_true]), hR.up 14 t 0 0 (Or.inl ?_) (cb_14 hR ht) ?_, rfl⟩
  · show mz_f14 n m (mz_rt t rs F) ad lv mk mm (mz_gt t gi F E) (mz_ot t go (va_up G c (some k))) gj t 0 0 = _
    have eo : ∀ (G' : Nat → Option Nat) x, mz_ot t go G' t x = G' x := fun G' x => by
      unfold mz_ot
      rw [beq_self_eq_true]
      rfl
    rw [mz_f14, if_pos ⟨ht, rfl, rfl⟩, cl_nI (by omega)]
    refine congrArg (fun f => some (Sum.inl (11, 31, Sum.inr (Sum.inr (Sum.inr (Sum.inr f)))))) (funext fun x => ?_)
    rw [eo]
    by_cases hx : x = c
    · subst hx
      rw [va_up_self, va_up_self]
      rfl
    · rw [va_up_ne _ _ hx, va_up_ne _ _ hx, eo]
  · rcases (show t = 0 ∨ t = 1 by omega) with rfl | rfl <;> (apply mz_hs <;> first | (exact fun _ _ _ _ => Or.inl rfl) | skip)
    · intro i j k' hne
      by_cases hq : i < 2 ∧ j = 0 ∧ k' = 0
      · left
        obtain rfl : i = 1 := by
          have : i ≠ 0 := fun e => hne ⟨rfl, e, hq.2⟩
          omega
        rfl
      · exact Or.inr (if_neg hq)
    · intro i j k' hne
      by_cases hq : i < 2 ∧ j = 0 ∧ k' = 0
      · left
        obtain rfl : i = 0 := by
          have : i ≠ 1 := fun e => hne ⟨rfl, e, hq.2⟩
          omega
        rfl
      · exact Or.inr (if_neg hq)
/-- the state as it stands, told by F, E, G; and the other way round -/
theorem mz_Rp.toT {rs : mz_RS} {gi : Nat → Nat → Nat → Int32} {go : Nat → Nat → Option Nat} (ht : t < 2) (hR : mz_Rp VB n m rs ad lv mk mm gi go gj h) (hF : ∀ x, x < 5 → F x = if t = 0 then rs.1 (if x = 0 then 30 else x + 25) else gi 1 x 0) (hE : ∀ k x, E k x = gi (2 + t) k x) (hG : ∀ c, G c = go t c) : mz_Rp VB n m (mz_rt t rs F) ad lv mk mm (mz_gt t gi F E) (mz_ot t go G) gj h := by
  refine hR.same ?_
  rcases (show t = 0 ∨ t = 1 by omega) with rfl | rfl
  · apply mz_hq <;> first | (exact fun _ _ _ => Or.inl rfl) | skip
    · intro i j k
      by_cases hq : i < 2 ∧ j = 0 ∧ k = 0
      · left
        rcases (show i = 0 ∨ i = 1 by omega) with rfl | rfl
        · apply keep12
          refine Or.inl ⟨rfl, fun x h1 h2 => ?_⟩
          rcases (show x = 26 ∨ x = 27 ∨ x = 28 ∨ x = 29 ∨ x = 30 by omega) with rfl | rfl | rfl | rfl | rfl
          · exact hF 1 (by omega)
          · exact hF 2 (by omega)
          · exact hF 3 (by omega)
          · exact hF 4 (by omega)
          · exact hF 0 (by omega)
        · apply keep12
          exact Or.inr ⟨rfl, fun x _ => rfl⟩
      · exact Or.inr (if_neg hq)
    · intro i j k
      by_cases hq : i < 2 ∧ j = 0 ∧ k = 0
      · left
        rcases (show i = 0 ∨ i = 1 by omega) with rfl | rfl
        · unfold mz_f14
          rw [show mz_ot 0 go G 0 = go 0 from funext hG]
        · rfl
      · exact Or.inr (if_neg hq)
    · intro i j k
      left
      apply keep15g
      · exact fun j k => hE j k
      · exact fun j k => rfl
  · apply mz_hq <;> first | (exact fun _ _ _ => Or.inl rfl) | skip
    · intro i j k
      by_cases hq : i < 2 ∧ j = 0 ∧ k = 0
      · left
        rcases (show i = 0 ∨ i = 1 by omega) with rfl | rfl
        · apply keep12
          refine Or.inl ⟨rfl, fun x h1 h2 => ?_⟩
          show (if _ && (_ && false) then _ else rs.1 x) = rs.1 x
          rw [Bool.and_false, Bool.and_false]
          rfl
        · apply keep12
          exact Or.inr ⟨rfl, fun x hx => hF x hx⟩
      · exact Or.inr (if_neg hq)
    · intro i j k
      by_cases hq : i < 2 ∧ j = 0 ∧ k = 0
      · left
        rcases (show i = 0 ∨ i = 1 by omega) with rfl | rfl
        · rfl
        · unfold mz_f14
          rw [show mz_ot 1 go G 1 = go 1 from funext hG]
      · exact Or.inr (if_neg hq)
    · intro i j k
      left
      apply keep15g
      · exact fun j k => rfl
      · exact fun j k => hE j k
end

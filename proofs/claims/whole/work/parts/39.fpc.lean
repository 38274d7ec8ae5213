/-! numbers: packed and rounded -/
def zI (p : Int) : Int32 := Int32.ofInt p
theorem zI_n (n : Nat) : zI n = nI n := by
  apply Int32.toBitVec_inj.mp
  show BitVec.ofInt 32 (n : Int) = BitVec.ofNat 32 n
  exact BitVec.ofInt_natCast 32 n
theorem zI_add (a b : Int) : zI a + zI b = zI (a + b) := (Int32.ofInt_add a b).symm
theorem zI_sub (a b : Int) : zI a - zI b = zI (a - b) := (Int32.ofInt_sub a b).symm
theorem zI_neg (a : Int) : -zI a = zI (-a) := (Int32.ofInt_neg a).symm
theorem zI_i {a : Int} (h1 : -2 ^ 31 ≤ a) (h2 : a < 2 ^ 31) : (zI a).toInt = a := Int32.toInt_ofInt_of_le h1 h2
theorem zI_le {a b : Int} (h1 : -2 ^ 31 ≤ a) (h2 : a < 2 ^ 31) (h3 : -2 ^ 31 ≤ b) (h4 : b < 2 ^ 31) : zI a ≤ zI b ↔ a ≤ b := by
  rw [Int32.le_iff_toInt_le, zI_i h1 h2, zI_i h3 h4]
theorem zI_lt {a b : Int} (h1 : -2 ^ 31 ≤ a) (h2 : a < 2 ^ 31) (h3 : -2 ^ 31 ≤ b) (h4 : b < 2 ^ 31) : zI a < zI b ↔ a < b := by
  rw [Int32.lt_iff_toInt_lt, zI_i h1 h2, zI_i h3 h4]
theorem zI_l {n : Nat} (h : n < 2 ^ 31) : (nI n).toInt64 = lN n := by
  apply Int64.toInt_inj.mp
  rw [Int32.toInt_toInt64, lN_toInt h]
  show (Int32.ofNat n).toInt = _
  rw [Int32.toInt_ofNat_of_lt h]
def sg (s : Bool) : Nat := s.toNat * 2 ^ 63
theorem sg_lt (s : Bool) : sg s < 2 ^ 64 := by
  cases s <;> decide
theorem u_asm (s : Bool) {E T : Nat} (hE : E < 2048) (hT : T < 2 ^ 52) : (lN (sg s) ||| lN (E * 2 ^ 52)) ||| lN T = lN (FP.Core.assemble FP.Core.b64 s E T) := by
  have e1 : sg s ||| E * 2 ^ 52 = (s.toNat * 2048 + E) * 2 ^ 52 := by
    have := Nat.two_pow_add_eq_or_of_lt (i := 63) (b := E * 2 ^ 52) (by omega) s.toNat
    unfold sg
    rw [Nat.mul_comm, ← this]
    omega
  have hs : s.toNat ≤ 1 := Bool.toNat_le s
  rw [u_or (sg_lt s) (by omega), e1, u_or (by omega) (by omega)]
  have := Nat.two_pow_add_eq_or_of_lt (i := 52) (b := T) hT (s.toNat * 2048 + E)
  rw [Nat.mul_comm, ← this, Nat.mul_comm]
  rfl
theorem k_packed_b83 (h : mz_H) (s : Bool) {E M : Nat} (hE : E < 2048) (hM : M < 2 ^ 64) : fn_X3_packed_b83 h (lN (sg s)) (nI E) (lN M) = some (lN (FP.Core.assemble FP.Core.b64 s E (M % 2 ^ 52)), h, 0, 0) := by
  unfold fn_X3_packed_b83
  rw [zr_e, zI_l (by omega), show (52 : Int32) = nI 52 from rfl, u_shl (by omega), show (4503599627370495 : Int64) = lN (2 ^ 52 - 1) from rfl, u_and hM (by omega), Nat.and_two_pow_sub_one_eq_mod, u_asm s hE (Nat.mod_lt _ (by omega))]
theorem b64_tails : FP.Core.b64.tails = 2 ^ 52 := rfl
theorem b64_qmin : FP.Core.b64.qmin = -1074 := by decide
theorem b64_qmax : FP.Core.b64.qmax = 971 := by decide
theorem enc_lo (s : Bool) {c : Nat} (q : Int) (h : c < 2 ^ 52) : FP.Core.encode FP.Core.b64 (.fin s c q) = FP.Core.assemble FP.Core.b64 s 0 c := by
  show (if c < FP.Core.b64.tails then _ else _) = _
  rw [if_pos (by rw [b64_tails]; exact h)]
theorem enc_hi (s : Bool) {c : Nat} (q : Int) (h : 2 ^ 52 ≤ c) : FP.Core.encode FP.Core.b64 (.fin s c q) = FP.Core.assemble FP.Core.b64 s ((q + 1074).toNat + 1) (c - 2 ^ 52) := by
  show (if c < FP.Core.b64.tails then _ else FP.Core.assemble FP.Core.b64 s ((q - FP.Core.b64.qmin).toNat + 1) (c - FP.Core.b64.tails)) = _
  rw [if_neg (by rw [b64_tails]; omega), b64_tails, b64_qmin, Int.sub_neg]
theorem k_packed (h : mz_H) (s : Bool) {D top : Nat} {p : Int} (hD : D < 2 ^ 64) (ht : top ≤ 1024) (hp1 : -1074 ≤ p) (hp2 : p ≤ 100000) :
    (D = 0 ∧ fn_X3_packed h (lN (sg s)) (lN D) (zI p) (nI top) = some (lN (FP.Core.encode FP.Core.b64 (.fin s 0 (-1074))), h, 0, 0)) ∨
    (D ≠ 0 ∧ (top : Int) < p + b_len D ∧ fn_X3_packed h (lN (sg s)) (lN D) (zI p) (nI top) = some (lN (FP.Core.encode FP.Core.b64 (.inf s)), h, 0, 0)) ∨
    (D ≠ 0 ∧ p + b_len D ≤ (top : Int) ∧ (D ≤ 2 ^ 53 → fn_X3_packed h (lN (sg s)) (lN D) (zI p) (nI top) = some (lN (FP.Core.encode FP.Core.b64 (FP.Core.roundRatio FP.Core.b64 s D 1 p)), h, 0, 0))) := by
  have hL : b_len D ≤ 64 := b_len_64 hD
  have hp := b_len_lt D
  unfold fn_X3_packed
  rw [k_len h hD, zl_0]
  by_cases h0 : D = 0
  · refine Or.inl ⟨h0, ?_⟩
    subst h0
    rw [if_pos (show nI (b_len 0) = 0 from rfl), zr_e]
    cases s <;> rfl
  · have hL1 := b_len_pos h0
    have hl := b_len_le h0
    refine Or.inr ?_
    rw [if_neg (show ¬ nI (b_len D) = 0 from fun e => absurd ((nI_eq (a := b_len D) (b := 0) (by omega) (by omega)).mp e) (by omega))]
    rw [← zI_n (b_len D), zI_add, ← zI_n top]
    by_cases h1 : p + b_len D ≤ (top : Int)
    · refine Or.inr ⟨h0, h1, fun hD53 => ?_⟩
      rw [if_pos ((zI_le (by omega) (by omega) (by omega) (by omega)).mpr h1), show ((1 : Int32)) = zI 1 from rfl, show (1023 : Int32) = zI 1023 from rfl, zo_s, zI_sub, zI_add]
      by_cases h2 : 1 ≤ p + b_len D - 1 + 1023
      · rw [if_pos ((zI_le (by omega) (by omega) (by omega) (by omega)).mpr h2), zo_s, show (53 : Int32) = zI 53 from rfl, zI_sub]
        obtain ⟨E, hE⟩ : ∃ E : Nat, (E : Int) = p + b_len D - 1 + 1023 := ⟨(p + b_len D - 1 + 1023).toNat, by omega⟩
        rw [← hE, zI_n, show (0 : Int32) = zI 0 from rfl]
        by_cases h3 : b_len D ≤ 53
        · rw [if_neg (fun e => absurd ((zI_lt (by omega) (by omega) (by omega) (by omega)).mp e) (by omega))]
          obtain ⟨k, hk⟩ : ∃ k : Nat, k = 53 - b_len D := ⟨_, rfl⟩
          rw [show (53 : Int) - b_len D = (k : Int) by omega, zI_n, u_shl (by omega)]
          have c1 : 2 ^ 52 ≤ D * 2 ^ k := by
            refine Nat.le_trans ?_ (Nat.mul_le_mul_right _ hl)
            rw [← Nat.pow_add]
            exact Nat.pow_le_pow_right (by omega) (by omega)
          have c2 : D * 2 ^ k < 2 ^ 53 := by
            refine Nat.lt_of_lt_of_le (Nat.mul_lt_mul_of_pos_right hp (Nat.two_pow_pos k)) ?_
            rw [← Nat.pow_add]
            exact Nat.pow_le_pow_right (by omega) (by omega)
          rw [k_packed_b83 h s (by omega) (by omega), ← r_same _ s D k p, r_fits FP.Core.b64 s (by decide) c2 (by rw [b64_qmin]; omega) (by rw [b64_qmax]; omega) (Or.inr c1)]
          rw [enc_hi s _ c1, show D * 2 ^ k % 2 ^ 52 = D * 2 ^ k - 2 ^ 52 by omega, show (p - (k : Int) + 1074).toNat + 1 = E by omega]
        · have hD2 : D = 2 ^ 53 := by
            have := Nat.pow_le_pow_right (show 0 < 2 by omega) (show 53 ≤ b_len D - 1 by omega)
            omega
          have hb : b_len D = 54 := by
            rw [hD2]
            decide
          rw [if_pos ((zI_lt (by omega) (by omega) (by omega) (by omega)).mpr (by omega)), zI_neg, hb, show -((53 : Int) - ((54 : Nat) : Int)) = ((1 : Nat) : Int) from rfl, zI_n, u_shr hD (by omega), k_packed_b83 h s (by omega) (u_lt64 hD)]
          rw [show FP.Core.roundRatio FP.Core.b64 s D 1 p = FP.Core.roundRatio FP.Core.b64 s (2 ^ 52 * 2 ^ 1) 1 (p + 1 - ((1 : Nat) : Int)) by rw [hD2]; congr 1; omega, r_same, r_fits FP.Core.b64 s (by decide) (by decide) (by rw [b64_qmin]; omega) (by rw [b64_qmax]; omega) (Or.inr (by decide))]
          rw [enc_hi s _ (Nat.le_refl _), hD2, show (p + 1 + 1074).toNat + 1 = E by omega]
      · rw [if_neg (fun e => h2 ((zI_le (by omega) (by omega) (by omega) (by omega)).mp e))]
        obtain ⟨k, hk⟩ : ∃ k : Nat, (k : Int) = p + 1074 := ⟨(p + 1074).toNat, by omega⟩
        rw [show (-1074 : Int32) = zI (-1074) from rfl, zI_sub, show p - (-1074) = (k : Int) by omega, zI_n, u_shl (by omega), zr_e]
        have c2 : D * 2 ^ k < 2 ^ 52 := by
          refine Nat.lt_of_lt_of_le (Nat.mul_lt_mul_of_pos_right hp (Nat.two_pow_pos k)) ?_
          rw [← Nat.pow_add]
          exact Nat.pow_le_pow_right (by omega) (by omega)
        have := u_asm s (show 0 < 2048 by omega) c2
        rw [Nat.zero_mul, u_or (sg_lt s) (by omega), Nat.or_zero] at this
        rw [this, ← r_same _ s D k p, r_fits FP.Core.b64 s (by decide) (Nat.lt_trans c2 (by decide)) (by rw [b64_qmin]; omega) (by rw [b64_qmax]; omega) (Or.inl (by rw [b64_qmin]; omega))]
        rw [enc_lo s _ c2]
    · refine Or.inl ⟨h0, by omega, ?_⟩
      rw [if_neg (fun e => h1 ((zI_le (by omega) (by omega) (by omega) (by omega)).mp e)), zr_e]
      cases s <;> rfl
theorem zI_max {a b : Int} (h1 : -2 ^ 31 ≤ a) (h2 : a < 2 ^ 31) (h3 : -2 ^ 31 ≤ b) (h4 : b < 2 ^ 31) : (if zI a < zI b then zI b else zI a) = zI (max a b) := by
  by_cases h : a < b
  · rw [if_pos ((zI_lt h1 h2 h3 h4).mpr h), Int.max_eq_right (by omega)]
  · rw [if_neg (fun e => h ((zI_lt h1 h2 h3 h4).mp e)), Int.max_eq_left (by omega)]
theorem zI_max0 {a : Int} (h1 : -2 ^ 31 ≤ a) (h2 : a < 2 ^ 31) : (if zI a < 0 then 0 else zI a) = zI (max a 0) := by
  have := zI_max (a := a) (b := 0) h1 h2 (by omega) (by omega)
  exact this
theorem r_link (f : FP.Core.Fmt) (s : Bool) (hp : 1 ≤ f.p) {D lost : Nat} (hD : D ≠ 0) (p : Int) (hl : (lost : Int) = max (max ((b_len D : Int) - f.p) (f.qmin - p)) 0) :
    FP.Core.nearest D (2 ^ lost) ≤ 2 ^ f.p ∧ f.qmin ≤ p + lost ∧ (FP.Core.nearest D (2 ^ lost) = 0 → r_N f D p = 0) ∧ (FP.Core.nearest D (2 ^ lost) ≠ 0 → p + lost + b_len (FP.Core.nearest D (2 ^ lost)) = FP.Core.quantum f D 1 p + b_len (r_N f D p)) ∧ ∀ g, FP.Core.roundRatio g s (FP.Core.nearest D (2 ^ lost)) 1 (p + lost) = FP.Core.roundRatio g s (r_N f D p) 1 (FP.Core.quantum f D 1 p) := by
  have ok := (r_N_ok f hp hD p).1
  have hq := r_quant f hD p
  have hL : b_len D = D.log2 + 1 := by
    unfold b_len
    rw [if_neg hD]
  unfold r_N at *
  generalize FP.Core.quantum f D 1 p = Q at hq ok
  by_cases h : p ≤ Q
  · have e : p + lost = Q := by omega
    rw [show (p - Q).toNat = 0 by omega, show (Q - p).toNat = lost by omega, Nat.pow_zero, Nat.mul_one] at *
    rw [e]
    exact ⟨ok, by omega, fun z => z, fun _ => rfl, fun _ => rfl⟩
  · have e : lost = 0 := by omega
    subst e
    obtain ⟨k, hk⟩ : ∃ k : Nat, (k : Int) = p - Q := ⟨(p - Q).toNat, by omega⟩
    rw [show (p - Q).toNat = k by omega, show (Q - p).toNat = 0 by omega, Nat.pow_zero, near_1, near_1] at *
    have hlen : b_len (D * 2 ^ k) = b_len D + k := by
      have h0 : D * 2 ^ k ≠ 0 := Nat.mul_ne_zero hD (by have := Nat.two_pow_pos k; omega)
      rw [hL]
      unfold b_len
      rw [if_neg h0, r_pow_len hD]
      omega
    refine ⟨?_, by omega, fun z => absurd z hD, fun _ => by rw [hlen]; omega, fun g => ?_⟩
    · have := b_len_lt D
      have h2 := Nat.pow_le_pow_right (show 0 < 2 by omega) (show b_len D ≤ f.p by omega)
      omega
    · rw [← r_same g s D k]
      congr 1
      omega
theorem k_rounded_b33 (h : mz_H) (s : Bool) (f : FP.Core.Fmt) {D top : Nat} {p : Int} {x5 : Int32} (hp : 1 ≤ f.p) (hp2 : f.p ≤ 53) (hm : f.qmin ≤ f.qmax) (hm2 : -1074 ≤ f.qmin) (htop : (top : Int) = f.qmax + f.p) (ht : top ≤ 1024) (ex : (if x5 = 0 then (1024 : Int32) else 128) = nI top) (hD : D < 2 ^ 64) (hb1 : -5000 ≤ p) (hb2 : p ≤ 5000) :
    fn_X3_rounded_b33 h (lN (sg s)) (lN D) (zI p) x5 (zI ((b_len D : Int) - f.p)) (zI f.qmin) = some (lN (FP.Core.encode FP.Core.b64 (FP.Core.round FP.Core.b64 (FP.Core.roundRatio f s D 1 p))), h, 0, 0) := by
  have hL : b_len D ≤ 64 := b_len_64 hD
  unfold fn_X3_rounded_b33
  obtain ⟨lost, hl⟩ : ∃ lost : Nat, (lost : Int) = max (max ((b_len D : Int) - f.p) (f.qmin - p)) 0 := ⟨(max (max ((b_len D : Int) - f.p) (f.qmin - p)) 0).toNat, by omega⟩
  rw [zo_s, zI_sub, zI_max (by omega) (by omega) (by omega) (by omega), zI_max0 (by omega) (by omega), zo_s, ← hl, zI_n, k_without h hD (by omega), zl_0, ← zI_n lost, zI_add]
  have e2 : (if x5 = 0 then fn_X3_rounded_b77 h (lN (sg s)) (lN (FP.Core.nearest D (2 ^ lost))) (zI (p + lost)) 1024 else fn_X3_rounded_b77 h (lN (sg s)) (lN (FP.Core.nearest D (2 ^ lost))) (zI (p + lost)) 128) = fn_X3_rounded_b77 h (lN (sg s)) (lN (FP.Core.nearest D (2 ^ lost))) (zI (p + lost)) (nI top) := by
    rw [← ex]
    split <;> rfl
  rw [e2]
  unfold fn_X3_rounded_b77
  by_cases h0 : D = 0
  · subst h0
    have en : FP.Core.nearest 0 (2 ^ lost) = 0 := near_big (Nat.two_pow_pos lost)
    rw [en]
    rcases k_packed h s (D := 0) (top := top) (p := p + lost) (by omega) ht (by omega) (by omega) with ⟨-, r⟩ | ⟨q, -⟩ | ⟨q, -⟩
    · rw [r, zl_0, zr_e]
      rfl
    · exact absurd rfl q
    · exact absurd rfl q
  · obtain ⟨l1, l2, l3, l4, l5⟩ := r_link f s hp h0 p hl
    obtain ⟨n1, n2, n3⟩ := r_N_ok f hp h0 p
    have h53 := Nat.pow_le_pow_right (show 0 < 2 by omega) hp2
    rw [r_ratio f s h0 p]
    have st := r_settle f s hp hm n1 n2 n3
    rcases k_packed h s (D := FP.Core.nearest D (2 ^ lost)) (top := top) (p := p + lost) (by omega) ht (by omega) (by omega) with ⟨q, r⟩ | ⟨q, q2, r⟩ | ⟨q, q2, r⟩
    · rw [r, zl_0, zr_e]
      have z := l3 q
      rw [z] at n3 st ⊢
      have : FP.Core.quantum f D 1 p = f.qmin := by
        have := Nat.two_pow_pos (f.p - 1)
        omega
      rcases st with ⟨st, -⟩ | ⟨-, c, q', st, -, -, -, -, st2⟩
      · have : b_len 0 = 0 := rfl
        omega
      · rw [st]
        show _ = some (lN (FP.Core.encode FP.Core.b64 (FP.Core.roundRatio FP.Core.b64 s c 1 q')), h, 0, 0)
        rw [st2]
        rfl
    · rw [r, zl_0, zr_e]
      rcases st with ⟨-, st⟩ | ⟨st, -⟩
      · rw [st]
        rfl
      · have := l4 q
        omega
    · rw [r (by omega), zl_0, zr_e]
      rcases st with ⟨st, -⟩ | ⟨-, c, q', st, -, -, -, -, st2⟩
      · have := l4 q
        omega
      · rw [st]
        show _ = some (lN (FP.Core.encode FP.Core.b64 (FP.Core.roundRatio FP.Core.b64 s c 1 q')), h, 0, 0)
        rw [st2, l5]

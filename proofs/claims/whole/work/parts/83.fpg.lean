/-! numbers: digits that are left out, all but whether there were any -/
theorem or_1 (a : Nat) : a ||| 1 = 2 * (a / 2) + 1 := by
  have e := Nat.two_pow_add_eq_or_of_lt (i := 1) (b := 1) (by decide) (a / 2)
  rcases Nat.mod_two_eq_zero_or_one a with q | q
  · have : a = 2 ^ 1 * (a / 2) := by omega
    have h2 : a ||| 1 = 2 ^ 1 * (a / 2) ||| 1 := congrArg (· ||| 1) this
    rw [h2, ← e]
  · have : a = 2 ^ 1 * (a / 2) ||| 1 := by omega
    have h2 : a ||| 1 = (2 ^ 1 * (a / 2) ||| 1) ||| 1 := congrArg (· ||| 1) this
    rw [h2, Nat.or_assoc, Nat.or_self, ← e]
theorem near_sticky {n J c : Nat} (hJ : 0 < J) (hc : 0 < c) (hr : n % J ≠ 0) : FP.Core.nearest n (J * (4 * c)) = FP.Core.nearest (n / J ||| 1) (4 * c) := by
  have hm := or_1 (n / J)
  rw [hm]
  have e1 : n / (J * (4 * c)) = n / J / (4 * c) := (Nat.div_div_eq_div_mul n J (4 * c)).symm
  have e2 : n % (J * (4 * c)) = n % J + J * (n / J % (4 * c)) := Nat.mod_mul
  have hrJ := Nat.mod_lt n hJ
  unfold FP.Core.nearest
  rw [e1, e2]
  generalize n % J = r at hr hrJ
  generalize n / J = a
  have d1 : (2 * (a / 2) + 1) / (4 * c) = a / (4 * c) := by
    rw [show 4 * c = 2 * (2 * c) by omega, ← Nat.div_div_eq_div_mul (2 * (a / 2) + 1) 2 (2 * c), ← Nat.div_div_eq_div_mul a 2 (2 * c), show (2 * (a / 2) + 1) / 2 = a / 2 by omega]
  have d2 := Nat.div_add_mod (2 * (a / 2) + 1) (4 * c)
  have d3 := Nat.div_add_mod a (4 * c)
  rw [d1] at d2 ⊢
  have ha : a % 2 = 0 ∨ a % 2 = 1 := Nat.mod_two_eq_zero_or_one a
  have h4 : 4 * c * (a / (4 * c)) = 2 * (2 * c * (a / (4 * c))) := by
    rw [← Nat.mul_assoc, show 2 * (2 * c) = 4 * c by omega]
  generalize a / (4 * c) = q at d2 d3 h4 ⊢
  rw [h4] at d2 d3
  generalize 2 * c * q = q2 at d2 d3
  have hb := Nat.mod_lt a (show 4 * c > 0 by omega)
  generalize a % (4 * c) = b at d3 hb ⊢
  generalize (2 * (a / 2) + 1) % (4 * c) = bm at d2 ⊢
  by_cases g : b < 2 * c
  · have x1 : J * (b + 1) ≤ J * (2 * c) := Nat.mul_le_mul_left J g
    rw [Nat.mul_add, Nat.mul_one] at x1
    have x2 : J * (4 * c) = 2 * (J * (2 * c)) := by
      rw [Nat.mul_left_comm J 4 c, Nat.mul_left_comm J 2 c]
      omega
    rw [if_pos (by omega), if_pos (by omega)]
  · have x1 : J * (2 * c) ≤ J * b := Nat.mul_le_mul_left J (by omega)
    have x2 : J * (4 * c) = 2 * (J * (2 * c)) := by
      rw [Nat.mul_left_comm J 4 c, Nat.mul_left_comm J 2 c]
      omega
    rw [if_neg (by omega), if_pos (by omega), if_neg (by omega), if_pos (by omega)]
def b_st (n j : Nat) : Nat := if n % 2 ^ j = 0 then n / 2 ^ j else n / 2 ^ j ||| 1
theorem r_sticky (f : FP.Core.Fmt) (s : Bool) {n j : Nat} (p : Int) (hp : 1 ≤ f.p) (hL : n % 2 ^ j ≠ 0 → f.p + 2 ≤ b_len (n / 2 ^ j)) : FP.Core.roundRatio f s (b_st n j) 1 (p + j) = FP.Core.roundRatio f s n 1 p := by
  have hJ := Nat.two_pow_pos j
  unfold b_st
  by_cases hr : n % 2 ^ j = 0
  · rw [if_pos hr, ← r_same f s (n / 2 ^ j) j (p + j), Nat.div_mul_cancel (Nat.dvd_of_mod_eq_zero hr)]
    congr 1
    omega
  · rw [if_neg hr]
    replace hL := hL hr
    have ha0 : n / 2 ^ j ≠ 0 := fun e => by
      rw [e] at hL
      have : b_len 0 = 0 := rfl
      omega
    have hn0 : n ≠ 0 := fun e => by
      rw [e, Nat.zero_div] at ha0
      exact ha0 rfl
    have la := b_len_le ha0
    have lb := b_len_lt (n / 2 ^ j)
    have em := or_1 (n / 2 ^ j)
    have hm0 : n / 2 ^ j ||| 1 ≠ 0 := by omega
    obtain ⟨l, hl⟩ : ∃ l, b_len (n / 2 ^ j) = l + 2 := ⟨b_len (n / 2 ^ j) - 2, by omega⟩
    rw [hl] at la lb hL
    have p2 : (2 : Nat) ^ (l + 2) = 2 * 2 ^ (l + 1) := by rw [Nat.pow_succ]; omega
    have p1 : (2 : Nat) ^ (l + 1) = 2 * 2 ^ l := by rw [Nat.pow_succ]; omega
    rw [show l + 2 - 1 = l + 1 by omega] at la
    have lm : (n / 2 ^ j ||| 1).log2 = l + 1 := by
      rw [Nat.log2_eq_iff hm0, em]
      omega
    have ln : n.log2 = l + 1 + j := by
      rw [Nat.log2_eq_iff hn0]
      have d := Nat.div_add_mod n (2 ^ j)
      have dr := Nat.mod_lt n hJ
      refine ⟨?_, ?_⟩
      · rw [Nat.pow_add]
        have := Nat.mul_le_mul_right (2 ^ j) la
        rw [Nat.mul_comm (n / 2 ^ j)] at this
        omega
      · rw [show l + 1 + j + 1 = (l + 2) + j by omega, Nat.pow_add]
        have := Nat.mul_le_mul_right (2 ^ j) (show n / 2 ^ j + 1 ≤ 2 ^ (l + 2) by omega)
        rw [Nat.add_mul, Nat.mul_comm (n / 2 ^ j)] at this
        omega
    rw [r_ratio f s hm0, r_ratio f s hn0]
    have q1 := r_quant f hm0 (p + j)
    have q2 := r_quant f hn0 p
    rw [lm] at q1
    rw [ln] at q2
    have qe : FP.Core.quantum f (n / 2 ^ j ||| 1) 1 (p + j) = FP.Core.quantum f n 1 p := by
      rw [q1, q2]
      congr 1
      omega
    unfold r_N
    rw [qe]
    generalize FP.Core.quantum f n 1 p = Q at q2
    obtain ⟨k, hk⟩ : ∃ k : Nat, (k : Int) = Q - (p + j) - 2 := ⟨(Q - (p + j) - 2).toNat, by omega⟩
    rw [show (p + j - Q).toNat = 0 by omega, show (p - Q).toNat = 0 by omega, show (Q - (p + j)).toNat = k + 2 by omega, show (Q - p).toNat = j + (2 + k) by omega, Nat.pow_zero, Nat.mul_one, Nat.mul_one]
    congr 1
    have := near_sticky (n := n) hJ (Nat.two_pow_pos k) hr
    rw [Nat.pow_add 2 j, Nat.add_comm k 2, Nat.pow_add 2 2]
    exact this.symm
theorem b_st_add {Z y d : Nat} (hZ : Z % 2 = 0) : b_st (Z * 2 ^ d + y) d = Z + b_st y d := by
  have hJ := Nat.two_pow_pos d
  unfold b_st
  rw [Nat.mul_comm Z, Nat.mul_add_mod, Nat.mul_add_div hJ]
  split
  · rfl
  · rw [or_1, or_1]
    omega
theorem b_st_sub {Z y d : Nat} (hZ : Z % 2 = 0) (hy : y ≤ Z * 2 ^ d) : b_st (Z * 2 ^ d - y) d = Z - b_st y d := by
  have hJ := Nat.two_pow_pos d
  have e := Nat.div_add_mod y (2 ^ d)
  have er := Nat.mod_lt y hJ
  have ha : y / 2 ^ d ≤ Z := Nat.div_le_of_le_mul (by rw [Nat.mul_comm]; exact hy)
  unfold b_st
  generalize y / 2 ^ d = a at e ha ⊢
  by_cases q : y % 2 ^ d = 0
  · have e1 : Z * 2 ^ d - y = (Z - a) * 2 ^ d := by
      rw [Nat.sub_mul, Nat.mul_comm a]
      omega
    rw [if_pos q, e1, Nat.mul_mod_left, if_pos rfl, Nat.mul_div_cancel _ hJ]
  · have hlt : a < Z := by
      rcases Nat.lt_or_ge a Z with z | z
      · exact z
      · have := Nat.mul_le_mul_right (2 ^ d) z
        rw [Nat.mul_comm a] at this
        omega
    obtain ⟨w, hw⟩ : ∃ w, Z = a + 1 + w := ⟨Z - a - 1, by omega⟩
    have e1 : Z * 2 ^ d - y = 2 ^ d * w + (2 ^ d - y % 2 ^ d) := by
      rw [hw, Nat.add_mul, Nat.add_mul, Nat.mul_comm a, Nat.mul_comm w]
      omega
    rw [if_neg q, e1, Nat.mul_add_mod, Nat.mul_add_div hJ, Nat.mod_eq_of_lt (by omega), Nat.div_eq_of_lt (show 2 ^ d - y % 2 ^ d < 2 ^ d by omega), if_neg (by omega), or_1, or_1]
    omega
theorem b_st_le {y d : Nat} (hd : 0 < d) : b_st y d ≤ y / 2 + 1 := by
  have : y / 2 ^ d ≤ y / 2 := by
    have := Nat.pow_le_pow_right (show 0 < 2 by omega) hd
    exact Nat.div_le_div_left (by omega) (by omega)
  unfold b_st
  split
  · omega
  · rw [or_1]
    omega
theorem b_st_0 (y : Nat) : b_st y 0 = y := by
  unfold b_st
  rw [Nat.pow_zero, Nat.mod_one, if_pos rfl, Nat.div_one]
theorem k_shifted (h : mz_H) {n d : Nat} (hn : n < 2 ^ 63) (hd : d < 2 ^ 31) : fn_X3_shiftedDown h (lN n) (nI d) = some (lN (b_st n d), h, 0, 0) := by
  have hJ := Nat.two_pow_pos d
  have e := Nat.div_add_mod n (2 ^ d)
  unfold fn_X3_shiftedDown b_st
  by_cases q : d ≤ 62
  · rw [if_pos (show nI d ≤ 62 from (nI_le q (by omega) : nI d ≤ nI 62)), u_shr (by omega) (by omega), zo_s, u_shl (by omega)]
    have hle : n / 2 ^ d * 2 ^ d ≤ n := Nat.div_mul_le_self _ _
    have c := u_cmp (a := n / 2 ^ d * 2 ^ d) (b := n) (by omega) (by omega)
    rw [Nat.mul_comm] at e
    by_cases w : n % 2 ^ d = 0
    · rw [if_pos (c.mpr (by omega)), if_pos w, zr_e]
    · have hq : n / 2 ^ d < 2 ^ 64 := u_lt64 (by omega)
      rw [if_neg (fun z => w (by have := c.mp z; omega)), if_neg w, zr_e, show (1 : Int64) = lN 1 from rfl, u_or hq (by decide)]
  · rw [if_neg (show ¬ nI d ≤ 62 from fun z => absurd (nI_lt (show 62 < d by omega) hd) (Int32.not_lt.mpr z))]
    have h63 := Nat.pow_le_pow_right (show 0 < 2 by omega) (show 63 ≤ d by omega)
    rw [Nat.div_eq_of_lt (show n < 2 ^ d by omega), Nat.mod_eq_of_lt (show n < 2 ^ d by omega)]
    by_cases w : n = 0
    · rw [if_pos ((u_cmp0 (by omega)).mpr w), if_pos w, zr_e]
      rfl
    · rw [if_neg (fun z => w ((u_cmp0 (by omega)).mp z)), if_neg w, zr_e]
      rfl

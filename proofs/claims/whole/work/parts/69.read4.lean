/-! the class reads a table: the whole of it -/
section
variable {VB : Nat} {n m : Nat} {rs : mz_RS} {ad : mz_T → Nat} {lv : Nat → Int32} {mk : Nat → Nat} {mm : Nat → Nat → Nat × Nat} {gi : Nat → Nat → Nat → Int32} {go : Nat → Nat → Option Nat} {gj : Nat → Nat → Int64} {h : mz_H}
variable {t : Nat}
theorem cs_read (ht : t < 2) (wc : mz_wc n rs lv) (wm : mz_wm n rs mk mm) (hR : mz_Rp VB n m rs ad lv mk mm gi go gj h) {c : Nat} (hc : c < n) {ws : List Nat} (T : wy_T n rs lv c ws) {Ns : List Nat} (hNs : Ns = tb_N (tb_f rs 3 0 ws) 31) : ∃ h' F E G gi', fn_X7_read h (some (ad (12, t, 0, 0))) (some (ad (2, 0, 0, 0))) (nI c) = some ((), h', 0, 0) ∧ mz_Rp VB n m (mz_rt t rs F) ad lv mk mm (mz_gt t gi' F E) (mz_ot t go G) gj h' ∧ h'.2 = h.2 ∧ (t = 1 → ∀ k x, gi' 2 k x = gi 2 k x) ∧ (∀ k, k < 31 → tb_E rs k (tb_f rs 3 0 ws k) (E k)) ∧ ∃ cnt, F 0 = nI cnt ∧ tb_O rs (tb_f rs 3 0 ws) (tb_f rs 6 6 ws) Ns (F 1) (F 2) (F 3) (F 4) cnt ∧ (cnt ≠ 0 → cnt = Ns.length) ∧ ∀ i, i < Ns.length → G i = Ns[i]? := by
  have hn := wc.1
  have hl := T.len
  have hw : ∀ y, y ∈ ws → y < n := by
    obtain ⟨L, -, -, -, -, z⟩ := T
    exact z
  have R0 := hR.toT ht (F := fun x => if t = 0 then rs.1 (if x = 0 then 30 else x + 25) else gi 1 x 0) (E := fun k x => gi (2 + t) k x) (G := go t) (fun _ _ => rfl) (fun _ _ => rfl) (fun _ => rfl)
  obtain ⟨h1, F1, E1, k1, R1, s1, x1, f1, f2, f3, f4⟩ := cs_forget ht 31 0 1001 h _ _ (by omega) (by omega) R0 (fun k hk => absurd hk (Nat.not_lt_zero k))
  have k1' : fn_X7_forget h (some (ad (12, t, 0, 0))) = some ((), h1, 0, 0) := k1
  obtain ⟨h2, e2, a, A, M, R2, W, -, s2⟩ := cs_way (rs := mz_rt t rs F1) wc R1.gw hc (wy_T_c (rs := rs) rfl T)
  have R2' : mz_Rp VB n m (mz_rt t rs F1) ad lv mk mm (mz_gt t (mz_gw (mz_gt t gi F1 E1) a A M) F1 E1) (mz_ot t go (go t)) gj h2 := by
    refine R2.same ?_
    rcases (show t = 0 ∨ t = 1 by omega) with rfl | rfl
    · apply mz_hq <;> first | (exact fun _ _ _ => Or.inl rfl) | (intro _ _ _; left; apply keep15g <;> exact fun _ _ => rfl)
    · apply mz_hq <;> first | (exact fun _ _ _ => Or.inl rfl) | (intro _ _ _; left; apply keep15g <;> exact fun _ _ => rfl)
  have J0 : tb_J rs (36 * ([] : List Nat).length) (tb_f rs 3 0 []) (tb_f rs 6 6 []) F1 E1 := by
    refine ⟨fun k hk => ⟨⟨(x1 k hk).2.1, (x1 k hk).1, (x1 k hk).2.2⟩, Nat.le_refl _, fun q hq => absurd hq List.not_mem_nil⟩, Or.inl ⟨f1, f2, f3, f4, fun _ _ => rfl⟩⟩
  obtain ⟨h3, F3, E3, g, k3, R3, s3, J3⟩ := cs_rdW ht wm hn hw (by omega) (fun j hj => W.2 j hj) ws [] 1001 h2 F1 E1 rfl (by omega) R2' J0
  have k3' : fn_X7_read_b13 1001 h2 (some (ad (12, t, 0, 0))) (some (ad (2, 0, 0, 0))) (nI ws.length) 0 = _ := k3
  obtain ⟨h4, F4, G4, k4, R4, s4, C4⟩ := cs_rdEnd ht R3 J3 (by omega) g ws.length hNs
  refine ⟨h4, F4, E3, G4, _, ?_, R4, by omega, fun e k x => ?_, fun k hk => (J3.1 k hk).1, C4⟩
  · simp only [fn_X7_read, ci_12 hR ht, k1', ci_2 R1, e2, k3', k4, zc_t, zl_0]
  · subst e
    rfl
end

/-! make: the call -/
theorem sn_R.to {rs : mz_RS} {Q b e : Nat} {nm ln dp ma : Int32} {h : mz_H} (R : sn_R nm ln dp ma b e h) (e35 : rs.2.1 35 Q = nm) (e36 : rs.2.1 36 Q = ln) (e37 : rs.2.1 37 Q = dp) (e38 : rs.2.1 38 Q = ma) (e39 : rs.2.1 39 Q = if dp = 0 then 1 else 0) (e40 : rs.2.1 40 Q = 1) (e43 : rs.2.2 43 (900 * Q) = mz_z8 ln) : sr_R rs Q b (fun _ => 0) e h := by
  obtain ⟨r0, r1, r2⟩ := R
  have rl : mz_rl rs Q = 1 := by unfold mz_rl; rw [e40]; rfl
  have d2 : ¬ ((0 : Int32) = 2) := by decide
  have d01 : ¬ ((0 : Int32) = 1) := by decide
  by_cases hd : dp = 0
  · rw [if_pos hd] at e39 r1
    obtain ⟨a1, a2, a3⟩ := r2 hd
    have n2 : ¬ rs.2.1 37 Q = 2 := by rw [e37, hd]; exact d2
    refine ⟨r0, ?_, fun _ _ => ⟨a1, a2, ?_⟩, fun _ z => absurd z n2⟩
    · rw [if_pos ⟨e39, n2⟩, if_neg (fun z => n2 z.2), e35, e36, e37, e38, r1]
      rfl
    · rw [a3, rl]
      refine congrArg (fun f => some (Sum.inl (1, 1, Sum.inr (Sum.inl f)))) (funext fun c => ?_)
      by_cases hc : c < 1
      · obtain rfl : c = 0 := by omega
        rw [if_pos hc, if_pos hc]
        exact e43.symm
      · rw [if_neg hc, if_neg hc]
  · rw [if_neg hd] at e39 r1
    have n1 : ¬ rs.2.1 39 Q = 1 := by rw [e39]; exact d01
    refine ⟨r0, ?_, fun z => absurd z n1, fun z => absurd z n1⟩
    rw [if_neg (fun z => n1 z.1), if_neg (fun z => n1 z.1), e35, e36, e37, e38, r1]
    rfl
theorem k_make {VB o q l : Nat} {rs : mz_RS} {h : mz_H} (H : mz_In VB o (l + 1) rs h) (x : Int32) : mz_Ok VB o q l rs (fun h => fn_X11_make h (some o) x) (fun h => fn_X12_make h (some q) x) h := by
  obtain ⟨n, m, ad, lv, mk, mm, gi, go, gj, hR, w⟩ := id H
  obtain ⟨wc, wm, wo, wt, wl, wq, wa, wv⟩ := id w
  obtain rfl : ad (1, 0, 0, 0) = o := wa
  have hn40 := wc.1
  have hm60 := wo.1
  rcases mz_no x (show n < 2 ^ 31 by omega) with hx | ⟨c, hc, rfl⟩
  · exact mz_Ok.same H (-1) (by simp only [fn_X11_make, cg_1_0 hR, ci_2 hR, cs_typeOf_no hR hx, zo_s, zc_t, zl_0, zr_e, z_0, z_1, if_true]) (by simp only [fn_X12_make, mz_RH_is, rs_isClass_no q h.2 wc.2.1 hx, zo_s, zc_t, zl_0, zr_e, z_0, z_1, if_true])
  obtain ⟨ws, T⟩ := wy_T_ex wc hc
  have hw : ∀ y, y ∈ ws → y < n := by
    obtain ⟨L, -, -, -, -, z⟩ := T
    exact z
  obtain ⟨Ns, hNs⟩ : ∃ Ns, Ns = tb_N (tb_f rs 3 0 ws) 31 := ⟨_, rfl⟩
  have hlen : Ns.length ≤ 31 := by rw [hNs]; exact tb_N_len _ 31
  have hmm : ∀ x ∈ Ns, x < 31 ∧ tb_f rs 3 0 ws x ≠ [] := by rw [hNs]; exact tb_N_mem _ 31
  have hnd : Ns.Nodup := by rw [hNs]; exact tb_N_nodup _ 31
  obtain ⟨h1, F, E, G, gi', k1, R1, s1, hg2, hE, cnt, f0, O1, -, hG⟩ := cs_read (t := 1) (by omega) wc wm hR hc T hNs
  have RTA := fun sz => rs_makeTable (rs := rs) q sz wc wm hc T hNs
  clear hNs
  have RC := fun sz => rs_isClass (rs := rs) q sz wc.2.1 wc.1 hc
  have PL := cs_plain hR hc
  have wt' : ∀ rs' : mz_RS, rs'.1 30 = rs.1 30 → rs'.2.1 31 = rs.2.1 31 → mz_wt0 rs' (mz_gt 1 gi' F E) (mz_ot 1 go G) := fun rs' y1 y2 => by
    obtain ⟨t, ht, et, hi⟩ := wt
    refine ⟨t, ht, y1.trans et, fun i hit => ?_⟩
    obtain ⟨k, hk, e1, e2, e3, e4, e5, e6, e7, e8⟩ := hi i hit
    rw [y2]
    have g2 : ∀ x, mz_gt 1 gi' F E 2 k x = gi 2 k x := fun x => hg2 rfl k x
    exact ⟨k, hk, e1, e2, e3.trans (g2 1).symm, e4.trans (g2 2).symm, e5.trans (g2 3).symm, e6.trans (g2 4).symm, e7.trans (g2 5).symm, e8.trans (g2 6).symm⟩
  by_cases hp : rs.2.1 3 c = 0 ∨ rs.2.1 3 c = 3
  case neg =>
    obtain ⟨a, A, B, C, r, nm, cl, ot, cnt', M, k2, O2, -⟩ := RTA h.2
    have n0 : ¬ rs.2.1 3 c = 0 := fun z => hp (Or.inl z)
    have n3 : ¬ rs.2.1 3 c = 3 := fun z => hp (Or.inr z)
    rw [if_neg n0, if_neg n3] at PL
    have CN := rs_concrete (rs := mz_mt (mz_wy rs a A B C) r nm cl ot (nI cnt') M) q h.2 (show c < 40 by omega)
    rw [if_neg (show ¬ (mz_mt (mz_wy rs a A B C) r nm cl ot (nI cnt') M).2.1 3 c = 0 from n0), if_neg (show ¬ (mz_mt (mz_wy rs a A B C) r nm cl ot (nI cnt') M).2.1 3 c = 3 from n3)] at CN
    refine ⟨-3, h, 0, 0, mz_mt (mz_wy rs a A B C) r nm cl ot (nI cnt') M, ?_, ?_, ⟨n, m, ad, lv, mk, mm, gi, go, gj, hR.same (by apply mz_hq <;> exact fun _ _ _ => Or.inl rfl), wc, wm, wo, wt, wl, wq, rfl, by omega⟩, Nat.le_refl _, Nat.le_refl _, by omega, by omega⟩
    · simp only [fn_X11_make, cg_1_0 hR, ci_2 hR, cs_typeOf hR wc.1 hc, if_neg smn, ci_6 hR hc, PL, zo_s, zc_t, zl_0, zr_e, z_0, z_1, if_true]
    · simp only [fn_X12_make, mz_RH_is, RC, if_neg one0, k2, CN, zo_s, zc_t, zl_0, zr_e, z_0, z_1, if_true]
  have PL1 : fn_X9_isPlainOrRecord h (some (ad (6, c, 0, 0))) = some (1, h, 0, 0) := by
    rw [PL]
    rcases hp with z | z
    · rw [if_pos z]
    · rw [if_pos z, ite_self]
  have CN1 : ∀ sz a A B C r nm cl ot mn M, fn_X12_isConcrete (mz_RH q sz (mz_mt (mz_wy rs a A B C) r nm cl ot mn M)) (some q) (nI c) = some (1, mz_RH q sz (mz_mt (mz_wy rs a A B C) r nm cl ot mn M), 0, 0) := fun sz a A B C r nm cl ot mn M => by
    rw [rs_concrete q sz (show c < 40 by omega)]
    rcases hp with z | z
    · rw [if_pos (show (mz_mt (mz_wy rs a A B C) r nm cl ot mn M).2.1 3 c = 0 from z)]
    · rw [if_pos (show (mz_mt (mz_wy rs a A B C) r nm cl ot mn M).2.1 3 c = 3 from z), ite_self]
  have t3 : mz_fI h1 (some (ad (12, 1, 0, 0))) 6 3 = some (F 1) := tr_f (t := 1) (by omega) R1 (x := 1) (by omega)
  have t2 : mz_fI h1 (some (ad (12, 1, 0, 0))) 6 2 = some (nI cnt) := by rw [← f0]; exact tr_f (t := 1) (by omega) R1 (x := 0) (by omega)
  obtain ⟨hcn, hr⟩ := O1.cnt
  -- a refusal behind the table
  have no : ∀ v : Int32, fn_X11_make h (some (ad (1, 0, 0, 0))) (nI c) = some (v, h1, 0, 0) → (∀ a A B C r nm cl ot M, r = F 1 → fn_X12_makeTable (mz_RH q h.2 rs) (some q) (nI c) = some ((), mz_RH q h.2 (mz_mt (mz_wy rs a A B C) r nm cl ot (nI cnt) M), 0, 0) → fn_X12_make (mz_RH q h.2 rs) (some q) (nI c) = some (v, mz_RH q h.2 (mz_mt (mz_wy rs a A B C) r nm cl ot (nI cnt) M), 0, 0)) → mz_Ok VB (ad (1, 0, 0, 0)) q l rs (fun h => fn_X11_make h (some (ad (1, 0, 0, 0))) (nI c)) (fun h => fn_X12_make h (some q) (nI c)) h := by
    intro v e1 e2
    obtain ⟨a, A, B, C, r, nm, cl, ot, cnt', M, k2, O2, -⟩ := RTA h.2
    obtain ⟨u1, u2, u3, u4, rfl⟩ := O1.uniq O2
    refine ⟨v, h1, 0, 0, mz_mt (mz_wy rs a A B C) r nm cl ot (nI cnt) M, e1, ?_, ⟨n, m, ad, lv, mk, mm, mz_gt 1 gi' F E, mz_ot 1 go G, gj, R1.same (by apply mz_hq <;> exact fun _ _ _ => Or.inl rfl), wc, wm, wo, wt' _ rfl rfl, wl, wq, rfl, by omega⟩, by omega, Nat.le_refl _, by omega, by omega⟩
    rw [s1]
    exact e2 a A B C r nm cl ot M u1.symm k2
  rcases hr with ⟨r0, hcN⟩ | ⟨rp, rn, -⟩
  case inr =>
    refine no (-3) ?_ (fun a A B C r nm cl ot M er k2 => ?_)
    · simp only [fn_X11_make, cg_1_0 hR, ci_2 hR, cs_typeOf hR wc.1 hc, if_neg smn, ci_6 hR hc, PL1, if_neg one0, cg_1_2 hR, ci_12 hR (show 1 < 2 by omega), k1, cg_1_2 R1, t3, if_neg rn, zo_s, zc_t, zl_0, zr_e, z_0, z_1, if_true]
    · have x20 : (mz_mt (mz_wy rs a A B C) r nm cl ot (nI cnt) M).1 20 = F 1 := er
      simp only [fn_X12_make, mz_RH_is, RC, if_neg one0, k2, CN1, rg_20, x20, if_neg rp, zo_s, zc_t, zl_0, zr_e, z_0, z_1, if_true]
  have r0' : F 1 ≤ 0 := by rw [r0]; decide
  by_cases h60 : m = 60
  · have e1 : (60 : Int32) ≤ nI m := by rw [h60]; decide
    have e2 : nI m = 60 := by rw [h60]; rfl
    refine no (-4) ?_ (fun a A B C r nm cl ot M er k2 => ?_)
    · simp only [fn_X11_make, cg_1_0 hR, ci_2 hR, cs_typeOf hR wc.1 hc, if_neg smn, ci_6 hR hc, PL1, if_neg one0, cg_1_2 hR, ci_12 hR (show 1 < 2 by omega), k1, cg_1_2 R1, t3, if_pos r0, cg_1_4 R1, if_pos e1, zo_s, zc_t, zl_0, zr_e, z_0, z_1, if_true]
    · have x20 : (mz_mt (mz_wy rs a A B C) r nm cl ot (nI cnt) M).1 20 = F 1 := er
      have x32 : (mz_mt (mz_wy rs a A B C) r nm cl ot (nI cnt) M).1 32 = nI m := wo.2.1
      simp only [fn_X12_make, mz_RH_is, RC, if_neg one0, k2, CN1, rg_20, x20, if_pos r0', rg_32, x32, if_pos e2, zo_s, zc_t, zl_0, zr_e, z_0, z_1, if_true]
  have hm : m < 60 := by omega
  have m1 : ¬ (60 : Int32) ≤ nI m := nI_ge (b := 60) hm (by omega)
  have m2 : ¬ nI m = 60 := fun z => h60 ((nI_eq (b := 60) (by omega) (by omega)).mp z)
  have q16 : nI cnt ≤ 16 ↔ cnt ≤ 16 := nI_leI (b := 16) (by omega) (by omega)
  by_cases h16 : cnt ≤ 16
  case neg =>
    have n16 : ¬ nI cnt ≤ 16 := fun z => h16 (q16.mp z)
    refine no (-4) ?_ (fun a A B C r nm cl ot M er k2 => ?_)
    · simp only [fn_X11_make, cg_1_0 hR, ci_2 hR, cs_typeOf hR wc.1 hc, if_neg smn, ci_6 hR hc, PL1, if_neg one0, cg_1_2 hR, ci_12 hR (show 1 < 2 by omega), k1, cg_1_2 R1, t3, if_pos r0, cg_1_4 R1, if_neg m1, t2, if_neg n16, zo_s, zc_t, zl_0, zr_e, z_0, z_1, if_true]
    · have x20 : (mz_mt (mz_wy rs a A B C) r nm cl ot (nI cnt) M).1 20 = F 1 := er
      have x32 : (mz_mt (mz_wy rs a A B C) r nm cl ot (nI cnt) M).1 32 = nI m := wo.2.1
      have x24 : (mz_mt (mz_wy rs a A B C) r nm cl ot (nI cnt) M).1 24 = nI cnt := rfl
      simp only [fn_X12_make, mz_RH_is, RC, if_neg one0, k2, CN1, rg_20, x20, if_pos r0', rg_32, x32, if_neg m2, rg_24, x24, if_neg n16, zo_s, zc_t, zl_0, zr_e, z_0, z_1, if_true]
  have p16 := q16.mpr h16
  -- the classes start
  obtain ⟨Lc, hLc, elc⟩ := wc.2.2.2.2.1 c hc
  have R1' : mz_Rp VB n m (mz_qa (mz_rt 1 rs F) 14 (rs.2.1 14)) ad lv mk mm (mz_gt 1 gi' F E) (mz_ot 1 go G) gj h1 := by
    have := qa_id (mz_rt 1 rs F) 14
    rw [← show mz_rt 1 rs F = mz_qa (mz_rt 1 rs F) 14 (rs.2.1 14) from this]
    exact R1
  obtain ⟨h2, F14, ks, kr, R2, s2, hF14⟩ := ok_start (rs := mz_rt 1 rs F) wc Lc c 0 1001 1001 h1 (rs.2.1 14) hc hLc elc (by omega) (by omega) (by omega) R1'
  have ks' : fn_X10_start h1 (some (ad (2, 0, 0, 0))) (nI c) = some ((), h2, 0, 0) := ks
  -- the thing
  obtain ⟨h3, k3, s3, d3, o3⟩ := pF_ex (k := 0) (v := .int (nI c)) (nw_at h2 (.inr (7, [.int 0, .null]))) (lt_rfl rfl)
  have z3 : h3.2 = h2.2 + 1 := s3
  have old3 : ∀ a, a < h2.2 → h3.1 a = h2.1 a := fun a ha => by rw [o3 _ (by omega), nw_ne _ _ (by omega)]
  have b12 := cb_12 R2 (i := 1) (by omega)
  have c12 : h3.1 (ad (12, 1, 0, 0)) = _ := (old3 _ b12).trans (cc_12 R2 (by omega))
  have t2' : mz_fI h3 (some (ad (12, 1, 0, 0))) 6 2 = some (nI cnt) := fI_of c12 (by rw [← f0]; rfl)
  obtain ⟨h4, k4, s4, d4, e4, o4⟩ := aF_ex (k := 1) (t := 15) (N := cnt) (x := .inr (.inr (.inr (.inr (fun _ => none))))) d3 (by omega) (lt_rfl rfl)
  have old4 : ∀ a, a < h2.2 → h4.1 a = h2.1 a := fun a ha => by rw [o4 _ (by omega) (by omega), old3 a ha]
  have d4' : h4.1 h2.2 = some (.inr (7, [.int (nI c), .ref (h2.2 + 1)])) := by
    rw [d4, z3]
    rfl
  obtain ⟨h5, bs, kk, nn, k5, y1, y2, y3, y4, y5, y6, y7, y8, y9, y10⟩ := cs_slotsNew R2 (Ns := Ns) (by omega) (fun k hk => (hmm k hk).1) (fun i hi => hG i hi) (by show F 0 = nI Ns.length; rw [f0, hcN]) (a1 := h2.2) (Nat.le_refl _) (nI c) Ns [] 1001 h4 (fun _ => h2.2 + 2) rfl (by omega) ⟨by omega, old4⟩ (Nat.le_refl _) (by show h2.2 + 2 = h4.2; omega) (fun s hs => absurd hs (Nat.not_lt_zero s)) (fun s kk hs => absurd hs (Nat.not_lt_zero s)) d4' (by
    rw [← z3, e4, hcN]
    refine congrArg (fun f => some (Sum.inl (15, Ns.length, Sum.inr (Sum.inr (Sum.inr (Sum.inr f)))))) (funext fun c => ?_)
    exact (if_neg (Nat.not_lt_zero c)).symm)
  have k5' : fn_X8_init_b22 1001 h4 (some h2.2) (some (ad (12, 1, 0, 0))) 0 = _ := k5
  have INIT : fn_X8_init (mz_nw h2 (.inr (7, [.int 0, .null]))) (some h2.2) (nI c) (some (ad (12, 1, 0, 0))) = some ((), h5, kk + 1, nn + cnt) := by
    simp only [fn_X8_init, Option.isSome, k3, t2', zn_a h3 15 (show cnt ≤ 1000000 by omega), k4, k5', za_s, zo_s, zc_t]
  have old5 : ∀ a, a < h2.2 → h5.1 a = h2.1 a := fun a ha => by rw [y5 a (by omega) (by omega), old4 a ha]
  have d5 : h5.1 h2.2 = some (.inr (7, [.int (nI c), .ref (h2.2 + 1)])) := by rw [y5 _ (by omega) (by omega)]; exact d4'
  obtain ⟨h6, k6, s6, o6, d16, d1⟩ := cs_addThing R2 hm old5 d5 (Nat.le_refl _)
  have is1 : mz_is h5 (some (ad (1, 0, 0, 0))) 10 = true := is_of ((old5 _ (cb_1 R2)).trans (cc_1 R2))
  -- the reference
  obtain ⟨a, A, B, C, r, nm, cl, ot, cnt', M, k2, O2, hM⟩ := RTA h6.2
  obtain ⟨u1, u2, u3, u4, rfl⟩ := O1.uniq O2
  obtain ⟨g', kr'⟩ := kr q h6.2 (nI c) (mz_mt (mz_wy rs a A B C) r nm cl ot (nI cnt) M) rfl
  have id14 : mz_qa (mz_mt (mz_wy rs a A B C) r nm cl ot (nI cnt) M) 14 (rs.2.1 14) = mz_mt (mz_wy rs a A B C) r nm cl ot (nI cnt) M := (qa_id (mz_mt (mz_wy rs a A B C) r nm cl ot (nI cnt) M) 14).symm
  rw [id14] at kr'
  generalize hR2 : mz_qa (mz_mt (mz_wy rs a A B C) r nm cl ot (nI cnt) M) 14 F14 = rs2 at kr'
  have e32 : rs2.1 32 = nI m := by rw [← hR2]; exact wo.2.1
  have e24 : rs2.1 24 = nI cnt := by rw [← hR2]; rfl
  have e25 : rs2.2.1 25 = M := by rw [← hR2]; rfl
  have R2' : mz_Rp VB n m rs2 ad lv mk mm (mz_gt 1 gi' F E) (mz_ot 1 go G) gj h2 := by
    rw [← hR2]
    exact R2.same (by apply mz_hq <;> exact fun _ _ _ => Or.inl rfl)
  have wo2 : mz_wo n m rs2 := by rw [← hR2]; exact wo
  have wc2 : mz_wc n rs2 lv := by rw [← hR2]; exact wc_start (rs := mz_mt (mz_wy rs a A B C) r nm cl ot (nI cnt) M) wc hF14
  have wm2 : mz_wm n rs2 mk mm := by rw [← hR2]; exact wm
  have wl2 : mz_wl n rs2 := by rw [← hR2]; exact wl
  have wq2 : mz_wq rs2 gj := by rw [← hR2]; exact wq
  have wt2 : mz_wt0 rs2 (mz_gt 1 gi' F E) (mz_ot 1 go G) := wt' rs2 (by rw [← hR2]; rfl) (by rw [← hR2]; rfl)
  have e1' : rs2.1 0 = (mz_qa (mz_rt 1 rs F) 14 F14).1 0 := by rw [← hR2]; rfl
  have e1'' : rs2.1 1 = (mz_qa (mz_rt 1 rs F) 14 F14).1 1 := by rw [← hR2]; rfl
  obtain ⟨X, J, k7, C7, B7, x33, x34⟩ := rs_mkS q h6.2 (rs := rs2) hm h16 e24 e25 cnt 0 1001 (mz_xX (mz_xX rs2.2.1 33 m (nI c)) 34 m (nI cnt)) (rs2.2.2 43) (by omega) (by omega) (fun t ht => absurd ht (Nat.not_lt_zero t)) ⟨fun p hp => ⟨rfl, rfl, rfl, rfl, rfl, rfl⟩, fun p hp => ⟨rfl, rfl⟩, fun p hp => rfl⟩
  have k7' : fn_X12_make_b104 1001 (mz_RH q h6.2 (mz_tw rs2 (nI m) (mz_xX (mz_xX rs2.2.1 33 m (nI c)) 34 m (nI cnt)) (rs2.2.2 43))) (some q) 0 = _ := k7
  have y33 : X 33 = upd (rs2.2.1 33) m (nI c) := by rw [x33]; rfl
  have y34 : X 34 = upd (rs2.2.1 34) m (nI cnt) := by rw [x34]; rfl
  have z33 : ∀ i, i < m → X 33 i = rs2.2.1 33 i := fun i hi => by rw [y33, pk_un (by omega)]
  have z34 : ∀ i, i < m → X 34 i = rs2.2.1 34 i := fun i hi => by rw [y34, pk_un (by omega)]
  have zm : X 34 m = nI cnt := by rw [y34, pk_us]
  have esl : mz_sl (mz_tw rs2 (nI (m + 1)) X J) m = cnt := by
    show (X 34 m).toNatClampNeg = _
    rw [zm, cl_nI (by omega)]
  have sm : ∀ i s, i < m → s < mz_sl rs2 i → mz_sm rs2 (mz_tw rs2 (nI (m + 1)) X J) (16 * i + s) (16 * i + s) := fun i s hi hs => by
    have hi16 := (mz_sl_le wo2 hi).1
    obtain ⟨c1, c2, c3, c4, c5, c6⟩ := B7.1 (16 * i + s) (by omega)
    exact ⟨c1, c2, c3, c4, c5, c6, fun k hk _ _ _ => B7.2.1 _ (by omega), fun k hk => B7.2.2 _ (by omega)⟩
  -- the new slots
  have hat : ∀ s, s < cnt → ∃ k, Ns[s]? = some k ∧ k < 31 ∧ tb_f rs 3 0 ws k ≠ [] ∧ M (7 * s) = nI k ∧ M (7 * s + 3) = E k 3 ∧ M (7 * s + 4) = E k 4 ∧ M (7 * s + 5) = E k 5 := fun s hs => by
    have hsN : s < Ns.length := by omega
    have hkk : Ns[s]? = some Ns[s] := List.getElem?_eq_getElem hsN
    obtain ⟨g1, g2⟩ := hmm _ (List.mem_of_getElem? hkk)
    have ev : ∀ x, 1 ≤ x → x ≤ 6 → E Ns[s] x = tb_val rs Ns[s] (tb_f rs 3 0 ws Ns[s]) x := fun x h1 h6 => (hE _ g1).val g2 h1 h6
    have em := hM (by omega) s _ hkk
    exact ⟨_, hkk, g1, g2, em 0 (by omega), (em 3 (by omega)).trans (ev 3 (by omega) (by omega)).symm, (em 4 (by omega)).trans (ev 4 (by omega) (by omega)).symm, (em 5 (by omega)).trans (ev 5 (by omega) (by omega)).symm⟩
  have wo' : mz_wo n (m + 1) (mz_tw rs2 (nI (m + 1)) X J) := by
    refine wo_more wo2 hm z33 z34 sm ⟨c, hc, by rw [y33, pk_us]⟩ ⟨cnt, h16, zm⟩ (fun s hs => ?_) (fun s i hs hi h2 h9 hl => ?_) (fun s t hs ht e => ?_) (fun s i hs h2 h9 hl => ?_)
    · rw [esl] at hs
      obtain ⟨k, hk1, hk2, hk3, v0, v3, v4, v5⟩ := hat s hs
      obtain ⟨c1, c2, c3, c4, c5, c6, c7⟩ := C7 s hs
      obtain ⟨⟨l, hl, el⟩, ⟨d, hd, ed⟩⟩ := tb_first wc wm hw hk2 hk3
      have ev3 : E k 3 = nI l := ((hE _ hk2).val hk3 (by omega) (by omega)).trans el
      have ev4 : E k 4 = nI d := ((hE _ hk2).val hk3 (by omega) (by omega)).trans ed
      refine ⟨⟨k, hk2, c1.trans v0⟩, ⟨l, hl, c2.trans (v3.trans ev3)⟩, ⟨d, hd, c3.trans (v4.trans ev4)⟩, ?_, ⟨1, by omega, c6⟩, fun z => ⟨?_, c6⟩⟩
      · rw [c5]
        split
        · exact Or.inr rfl
        · exact Or.inl rfl
      · rw [c3] at z
        rw [c5, if_pos z]
    · rw [esl] at hs
      obtain ⟨c1, c2, c3, c4, c5, c6, c7⟩ := C7 s hs
      rw [c3] at h2
      rw [c5, if_neg (by rw [h2]; decide)] at h9
      exact absurd h9 (by decide)
    · rw [esl] at hs ht
      obtain ⟨k, hk1, hk2, hk3, v0, -⟩ := hat s hs
      obtain ⟨k', hk1', hk2', hk3', v0', -⟩ := hat t ht
      have e' : nI k = nI k' := by
        rw [← v0, ← v0', ← (C7 s hs).1, ← (C7 t ht).1]
        exact e
      have ekk : k = k' := (nI_eq (by omega) (by omega)).mp e'
      subst ekk
      exact (List.getElem?_inj (show s < Ns.length by omega) hnd).mp (hk1.trans hk1'.symm)
    · rw [esl] at hs
      obtain ⟨c1, c2, c3, c4, c5, c6, c7⟩ := C7 s hs
      have rl1 : mz_rl (mz_tw rs2 (nI (m + 1)) X J) (16 * m + s) = 1 := by
        show (X 40 (16 * m + s)).toNatClampNeg = 1
        rw [c6]
        rfl
      rw [rl1] at hl
      obtain rfl : i = 0 := by omega
      intro e8
      left
      rw [Nat.add_zero, c7, ← c2]
      exact if_pos e8
  have mo := bs_mono y8
  have R6 := R2'.thing wo2 (S := cnt) (X := X) (J := J) (h' := h6) (bs := bs) (ps := fun _ _ => 0) (by omega) y6 (by rw [hcN, y7]; omega) (by omega) (by rw [hcN]; exact y8) h16 z33 z34 zm sm (fun s hs => by
    obtain ⟨k, hk1, hk2, hk3, v0, v3, v4, v5⟩ := hat s hs
    obtain ⟨c1, c2, c3, c4, c5, c6, c7⟩ := C7 s hs
    have q := (y9 s k (by omega) hk1).ext (h' := h6) fun a h1 h2 => o6 a (by
      have := cb_1 R2
      have := mo s 0 (by omega)
      rw [Nat.zero_add] at this
      omega) (by
      have := cb_16 R2
      have := mo s 0 (by omega)
      rw [Nat.zero_add] at this
      omega)
    exact q.to (c1.trans v0) (c2.trans v3) (c3.trans v4) (c4.trans v5) (c5.trans (by rw [v4]; rfl)) c6 (c7.trans (by rw [v3]; rfl))) (by
    have := cb_1 R2
    have := cb_16 R2
    rw [o6 _ (by omega) (by omega), d5, y33, pk_us]) (by
    have := cb_1 R2
    have := cb_16 R2
    rw [o6 _ (by omega) (by omega), y10, hcN]) d16 (by rw [e1', e1'']; exact d1) (fun a ha n1 n2 => by rw [o6 a n1 n2, old5 a ha])
  have c0 : (rs.1 32).toNatClampNeg = m := by rw [wo.2.1, cl_nI (by omega)]
  have c1 : ((mz_tw rs2 (nI (m + 1)) X J).1 32).toNatClampNeg = m + 1 := cl_nI (by omega)
  refine ⟨nI m, h6, kk + 1 + 1, nn + cnt + 2, mz_tw rs2 (nI (m + 1)) X J, ?_, ?_, ⟨n, m + 1, _, lv, mk, mm, _, _, gj, R6, wc2, wm2, wo', wt2, wl2, wq2, rfl, by omega⟩, by omega, by omega, by omega, by omega⟩
  · have i12 : mz_fR (mz_nw h2 (.inr (7, [.int 0, .null]))) (some (ad (1, 0, 0, 0))) 10 2 = some (some (ad (12, 1, 0, 0))) := fR_of (r := some (ad (12, 1, 0, 0))) ((nw_ne _ _ (by have := cb_1 R2; omega)).trans (cc_1 R2)) rfl
    simp only [fn_X11_make, cg_1_0 hR, ci_2 hR, cs_typeOf hR wc.1 hc, if_neg smn, ci_6 hR hc, PL1, if_neg one0, cg_1_2 hR, ci_12 hR (show 1 < 2 by omega), k1, cg_1_2 R1, t3, if_pos r0, cg_1_4 R1, if_neg m1, t2, if_pos p16, cg_1_0 R1, ci_2 R1, ks', zn_o, i12, is_of (nw_at h2 (.inr (7, [.int 0, .null]))), INIT, is1, k6, zl_s, za_s, zo_s, zc_t, zl_0, zr_e]
    simp only [Nat.zero_add]
  · have x20 : (mz_mt (mz_wy rs a A B C) r nm cl ot (nI cnt) M).1 20 = F 1 := u1.symm
    have x32 : (mz_mt (mz_wy rs a A B C) r nm cl ot (nI cnt) M).1 32 = nI m := wo.2.1
    have x24 : (mz_mt (mz_wy rs a A B C) r nm cl ot (nI cnt) M).1 24 = nI cnt := rfl
    have id1 : mz_sa rs2 33 m (nI c) = mz_tw rs2 (nI m) (mz_xX rs2.2.1 33 m (nI c)) (rs2.2.2 43) := by
      have := tw_id rs2
      rw [e32] at this
      conv => lhs; rw [this]
      rw [tw_33]
    have w32 : (mz_tw rs2 (nI m) (mz_xX rs2.2.1 33 m (nI c)) (rs2.2.2 43)).1 32 = nI m := rfl
    have w24 : (mz_tw rs2 (nI m) (mz_xX rs2.2.1 33 m (nI c)) (rs2.2.2 43)).1 24 = nI cnt := e24
    have END : fn_X12_make_b56 (g' + 1) (mz_RH q h6.2 rs2) (some q) (nI c) (-9) = some (nI m, mz_RH q h6.2 (mz_tw rs2 (nI (m + 1)) X J), 0, 0) := by
      simp only [fn_X12_make_b56, rr_33, rw_33, rg_32, e32, ix_nI (show m < 60 by omega) (show 60 < 2 ^ 31 by omega), cl_nI (show m < 2 ^ 31 by omega), id1, rr_34, rw_34, w32, rg_24, w24, tw_34, k7', zo_s, if_true]
    simp only [fn_X12_make, mz_RH_is, RC, if_neg one0, k2, CN1, rg_20, x20, if_pos r0', rg_32, x32, if_neg m2, rg_24, x24, if_pos p16, kr', END, zo_s, zc_t, zl_0]

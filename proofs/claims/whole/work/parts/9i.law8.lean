/-! the law: its start; the claim -/
set_option maxHeartbeats 8000000 in
set_option maxRecDepth 100000 in
theorem whole_start {p : Program} {e : Env} {s : State} {m : MethodId} {below : List Frame} {meth : Method} {c : Code} (l : Launch) {b L : Nat} {xs : Nat → Int32} (hL : L ≤ 4096) (C0 : lw_At p s m meth c b L xs) : W p l e room_1 s m #[Value.ref b] below meth c s.heap [] 0 0 (lw_Z below #[Value.ref b] s) (entryFrame m ([Value.ref b] : List Value).toArray 4) := by
  obtain ⟨hx, hb, hr, hml, hown, hts, hX, hbl, hlocks, hgv⟩ := C0
  obtain ⟨g, hK, hZ⟩ := lw_KZ hts hgv
  have htm : ∀ w ∈ mz_tbl, w.before #[Value.ref b] s = true := fun w hw => hts w (List.mem_filter.mp hw).1
  have X : mz_X p g RL cL_law 4 (fun q : Nat => s.heap.size ≤ q) s m #[Value.ref b] c := ⟨hx, hb, hml, hown, htm, hK, hZ, fun q hq => hq⟩
  have hH0 : mz_R g (fun q : Nat => s.heap.size ≤ q) (fun _ => none, s.heap.size) s.heap := ⟨rfl, fun a e he => nomatch he⟩
  obtain ⟨ls, e1, hl⟩ := mz_entry [(false, Value.ref b)] 4 (mz_c1 rfl mz_c0) (Nat.le_of_ble_eq_true rfl) m
  rw [show (([Value.ref b] : List Value).toArray) = ([(false, Value.ref b)].map (·.2)).toArray from rfl, e1]
  have hl : mz_L ls 4 [(0, false, va_rf (some b))] := hl
  obtain ⟨r1, h1, k1, n1, f1, g1, g2, c1, C1, F1⟩ := ci_X11 s.heap.size
  obtain ⟨r2, h2, k2, n2, f2, g3, g4, D1, D2⟩ := ci_X12 (s.heap.size + 79)
  refine mz_new (ci := 10) (dc := 599999) (ds := 7302240) X hH0 va_S.rf tyX11 rfl cl_10 tyX11_ok ⟨mz_tb 58 (by decide +kernel) rfl, mz_tb 59 (by decide +kernel) rfl, mz_tb 40 (by decide +kernel) rfl⟩ ci_D (by decide) dL_law_0 rfl rfl (fun H1 hH1 hS1 _ _ => ?_)
  refine mz_dupR X dL_law_3 ?_
  refine mz_run X hH1 hS1 (mz_runI (rest := [.ref s.heap.size]) X hH1 hS1 hl.1.1 [] (ct_X11_init l g _ (some s.heap.size) r1 h1 k1 n1 f1) lb_9 li_X11_init rfl rfl (by show 1 ≤ 4; decide) ⟨Nat.le_of_ble_eq_true rfl, Nat.le_of_ble_eq_true rfl⟩ ⟨by show 0 + 1 + k1 ≤ 600000; omega, by show 0 + 10 + n1 ≤ 7302250; omega⟩ dL_law_4 rfl) (fun H2 locs2 hH2 hS2 => ?_)
  refine mz_astore_n (r := some s.heap.size) X [(1, false, va_rf (some s.heap.size)), (0, false, va_rf (some b))] dL_law_7 rfl hl (by decide) rfl (fun ls hl => ?_)
  have z1 : h1.2 = s.heap.size + 79 := C1.1
  refine mz_new (ci := 11) (dc := 600000 - (0 + 1 + k1) - 1) (ds := 7302250 - (0 + 10 + n1) - 52) X hH2 hS2 tyX12 rfl cl_11 tyX12_ok ⟨mz_tb 957 (by decide +kernel) rfl, mz_tb 958 (by decide +kernel) rfl, mz_tb 45 (by decide +kernel) rfl⟩ ci_D2 (by decide) dL_law_8 (by show 0 + 1 + k1 + (600000 - (0 + 1 + k1) - 1 + 1) = 600000; omega) (by show 0 + 10 + n1 + (7302250 - (0 + 10 + n1) - 52 + 52) = 7302250; omega) (fun H3 hH3 hS3 _ _ => ?_)
  rw [z1]
  have lt1 : ∀ a e, h1.1 a = some e → a < s.heap.size + 79 := fun a e he => by
    have := (hH2.2 a e he).1.lt
    rw [hH2.1, z1] at this
    exact this
  have hM0 : mz_R g (fun q : Nat => s.heap.size ≤ q) (mz_nw (fun _ => none, s.heap.size + 79) (.inr (11, ci_D2))) H3 := hH3.part (by show s.heap.size + 79 + 1 = h1.2 + 1; rw [z1]) (fun a e he => by
    have he' : (if a = s.heap.size + 79 then some (.inr (11, ci_D2)) else none) = some e := he
    show (if a = h1.2 then some (.inr (11, ci_D2)) else h1.1 a) = some e
    rw [z1]
    by_cases q : a = s.heap.size + 79
    · rw [if_pos q] at he' ⊢
      exact he'
    · rw [if_neg q] at he'
      cases he')
  have hX0 : mz_R g (fun q : Nat => s.heap.size ≤ q) (h1.1, s.heap.size + 79 + 1) H3 := hH3.part (by show s.heap.size + 79 + 1 = h1.2 + 1; rw [z1]) (fun a e he => by
    show (if a = h1.2 then some (.inr (11, ci_D2)) else h1.1 a) = some e
    have := lt1 a e he
    rw [if_neg (by rw [z1]; omega)]
    exact he)
  have dj0 : mz_dj (mz_nw (fun _ => none, s.heap.size + 79) (.inr (11, ci_D2))) (h1.1, s.heap.size + 79 + 1) := fun a e e' h3 h4 => by
    have h3' : (if a = s.heap.size + 79 then some (.inr (11, ci_D2)) else none) = some e := h3
    have := lt1 a e' h4
    rw [if_neg (by omega)] at h3'
    cases h3'
  refine mz_dupR X dL_law_11 ?_
  refine mz_run2 X hM0 hX0 dj0 hS3 (mz_runI (rest := [.ref (s.heap.size + 79)]) X hM0 hS3 hl.1.1 [] (ct_X12_init l g _ (some (s.heap.size + 79)) r2 h2 k2 n2 f2) lb_12 li_X12_init rfl rfl (by show 1 ≤ 4; decide) ⟨Nat.le_of_ble_eq_true rfl, Nat.le_of_ble_eq_true rfl⟩ ⟨by show 0 + 1 + k1 + 1 + k2 ≤ 600000; omega, by show 0 + 10 + n1 + 52 + n2 ≤ 7302250; omega⟩ dL_law_12 rfl) (fun H4 locs4 hH4 hX4 dj4 hS4 => ?_)
  refine mz_astore_n (r := some (s.heap.size + 79)) X [(2, false, va_rf (some (s.heap.size + 79))), (1, false, va_rf (some s.heap.size)), (0, false, va_rf (some b))] dL_law_15 rfl hl (by decide) rfl (fun ls hl => ?_)
  refine lv_iconst (v := 0) X.1 X.2.1 dL_law_16 (by decide) ?_
  refine mz_istore_n X [(3, false, .int 0), (2, false, va_rf (some (s.heap.size + 79))), (1, false, va_rf (some s.heap.size)), (0, false, va_rf (some b))] dL_law_17 rfl hl (by decide) rfl (fun ls hl => ?_)
  rw [D1] at hX4 dj4
  have I : lw_I g s (s.heap.size + 79 + 35 + 40 * 512 + 1100 * 60) s.heap.size (s.heap.size + 79) 512 ci_rs (h1.1, s.heap.size + 79 + 35) H4 locs4 (0 + 1 + k1 + 1 + k2) (0 + 10 + n1 + 52 + n2) := by
    refine ⟨ci_In C1 F1 (by omega) (Nat.le_refl _), ⟨hX4, hH4.part D1.symm D2, fun a e e' h3 h4 => dj4 a e' e (D2 a e' h4) h3, hS4⟩, ?_, ?_⟩
    · rw [show (ci_rs.1 32).toNatClampNeg = 0 from rfl]
      omega
    · rw [show (ci_rs.1 32).toNatClampNeg = 0 from rfl]
      omega
  exact lw_loop hL X hr hlocks hX hbl 512 0 ci_rs _ H4 locs4 _ _ ls (by omega) (by omega) I (mz_sub hl [3, 2, 1, 0] rfl)
set_option maxHeartbeats 4000000 in
theorem lw_walk (l : Launch) (b : Addr) (xs : List Int32) : MetFree l x (headSpec (Jvm.Cond.code x code maxLocals ret :: tables_1) room_1) (lw_P b xs) (fun _ _ _ _ _ => True) lw_Q := by
  refine MetFree.of_bodyS (code := code) (maxLocals := maxLocals) (ret := ret) (by decide) ?_ ?_
  · intro args s m h hn
    obtain ⟨meth, c, h1, h2, h3, h4, h5, h6, -, -⟩ := Cond.code_spec hn (atoms_spec (ws := Jvm.Cond.code x code maxLocals ret :: tables_1) h _ List.mem_cons_self)
    exact ⟨meth, c, h1, h2, h3, h4, h5, h6⟩
  · intro p e s m args below meth c s₁ B hml0 hP _
    obtain ⟨rfl, hx, hbd, hgv⟩ := hP
    obtain ⟨scr, harrAt, hlist, hof, hsmall⟩ := hx
    obtain ⟨hcb, hkn, -, -⟩ := State.arrayAt?_spec harrAt
    have hown : s.vm.findClass R_law = some m.cls := findClass_of_methodNamed B.named
    have hts0 : ∀ c ∈ (Jvm.Cond.code x code maxLocals ret :: tables_1), c.before #[Value.ref b] s = true := atoms_spec (ws := Jvm.Cond.code x code maxLocals ret :: tables_1) B.pre
    have hts : ∀ w ∈ lw_tbl, w.before #[Value.ref b] s = true := k2_hts_sels lw_privs (fun w hw => hts0 w (List.mem_cons_of_mem _ hw)) lw_privs_ok
    have hml : c.maxLocals = 4 := B.maxLocals_eq (hts0 _ List.mem_cons_self)
    have X₀ : Stand p l e room_1 s m #[Value.ref b] below meth c s₁ [] 0 0 := Stand.of_body B
    have hh0 : s₁.heap = s.heap := by rw [B.state]; rfl
    have hsz : scr.slots.size = xs.length := by rw [← Array.length_toList, hlist, List.length_map]
    have hval : ∀ j : Nat, j < xs.length → scr.slots[j]? = some (.int (xs.getD j 0)) := fun j hj => by
      rw [← Array.getElem?_toList, hlist]
      simp [hj]
    have hbl : b < s.heap.size := (Array.getElem?_eq_some_iff.mp hcb).1
    have hX : va_X b xs.length (fun j => xs.getD j 0) s s.heap := ⟨scr, hcb, hof, hkn, hsz, hval⟩
    have K : W p l e room_1 s m #[Value.ref b] below meth c s₁.heap [] 0 0 (lw_Z below #[Value.ref b] s) (entryFrame m ([Value.ref b] : List Value).toArray 4) := by
      rw [hh0]
      exact whole_start l hbd ⟨B.exec, B.bytes, B.returns, hml, hown, hts, hX, hbl, B.notSynchronized, hgv⟩
    obtain ⟨t, a1, o, b1, b2, b3⟩ := K s₁ rfl X₀
    exact ⟨t, o, a1, b1, b2, b3⟩
theorem lw_pre_spec {args : Array Value} {s : State} (h : (Jvm.Cond.and given_1 narrow_1).before args s = true) (hr : rest_1_c.before args s = true) : ∃ (b : Addr) (xs : List Int32), lw_P b xs args s := by
  have hs := flat_of_before _ h
  have hq := flat_of_before _ hr
  have hc : (Cond.count 1).before args s = true := hs _ (by decide +kernel)
  have harr : (Cond.arrayOf (.arg 0) .int).before args s = true := hs _ (by decide +kernel)
  have hle : (Cond.le (.length (.arg 0)) (.int 4096)).before args s = true := hs _ (by decide +kernel)
  have hlen : (Cond.isInt (.length (.arg 0))).before args s = true := hq _ (by decide +kernel)
  have hall : (Cond.all (.arg 0) (.isInt (.elem (.arg 0) (.index 0)))).before args s = true := hq _ (by decide +kernel)
  obtain ⟨b, xs, hb, hx⟩ := State.ints_of_pre rfl harr hlen hall
  have hsm : xs.length < 2 ^ 31 := hx.choose_spec.2.2.2
  have hev : (Term.length (.arg 0)).eval args s none [] s = some (.int xs.length.toInt32) := hx.length_eval hb
  have hv := Cond.le_ints hev (show (Term.int 4096).eval args s none [] s = some (.int 4096) from rfl)
  have hd : xs.length.toInt32 ≤ 4096 := by
    simpa [Cond.before, Cond.holds, hv] using hle
  have hN : xs.length ≤ 4096 := (Int32.ofNat_le_ofNat hsm (by decide)).mp (show Int32.ofNat xs.length ≤ Int32.ofNat 4096 from hd)
  exact ⟨b, xs, Cond.one_arg hc (show args[0]? = some (.ref b) from hb), hx, hN, h⟩
theorem lw_comes (l : Launch) : Comes l x (Jvm.Cond.code x code maxLocals ret :: tables_1) room_1 (fun tb e args s => Calls_1 tb e args s ∧ rest_1 tb e args s ∧ Pre_1 tb e args s)
    (fun _ _ args s o t => lw_Q args s o t) := by
  intro p e ha hc hk s m args below hf hfit hheap happ hpre
  obtain ⟨b, xs, hP⟩ := lw_pre_spec hpre.2.2 hpre.2.1
  obtain ⟨k, o, h1, h2, h3, hQ⟩ := lw_walk l b xs p e ha hc hk s m args below hf ((Spec.applies_iff_loose hf).mp happ).1 hP trivial
  exact ⟨k, o, h1, h2, h3, hQ⟩
theorem lw_frame {s t : State} {o : Outcome} {args : Array Value} (h : State.butDraws s t lw_cs (fun t1 => Framed s o t1 [] 600000 7302250)) :
    State.butDraws s t [Jvm.Choice.named "NaN.bits", Jvm.Choice.named "NaN.copy"] (fun t1 => Framed s o t1 (fieldLocs frame_1_writes args s ++ arrayLocs frame_1_arrays args s ++ staticLocs frame_1_statics s) 600000 7302250) := h
theorem lw_limb (L : Cond) (hL : ∀ (args : Array Value) (s t : State), L.after args s (.returned (some (.int 1))) t = true) :
    ArmFor flags0 classFile x code maxLocals ret World_1 tables_1 room_1 Calls_1 rest_1 Pre_1
      (fun tb e a s o t => postC L tb e a s o t ∧ State.butDraws s t [Jvm.Choice.named "NaN.bits", Jvm.Choice.named "NaN.copy"] (fun t1 => Framed s o t1 (fieldLocs frame_1_writes a s ++ arrayLocs frame_1_arrays a s ++ staticLocs frame_1_statics s) 600000 7302250)) := by
  intro l _ _ _ p e ha hc hk s m args below hf hfit hheap happ hpre
  obtain ⟨k, o, h1, h2, h3, rfl, hF⟩ := lw_comes l p e ha hc hk s m args below hf hfit hheap happ hpre
  exact ⟨k, _, h1, h2, h3, hL args s _, lw_frame hF⟩
theorem i_vc : Claimed_1_1 ∧ Claimed_1_2 := ⟨lw_limb limb_1_1 (fun args s t => by simp [limb_1_1, Cond.after, Cond.holds, Cond.value]), lw_limb limb_1_2 (fun args s t => Cond.after_iff.mpr (by
  first | (rw [show limb_1_2 = Cond.eq .result (.int 1) from rfl, Cond.eq_ints (x := 1) (y := 1) rfl rfl]; simp; done) | (simp [limb_1_2, Cond.value, Term.eval]; done)))⟩

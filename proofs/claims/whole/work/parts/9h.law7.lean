/-! the law: its start's world, and its loop -/
def R_law : String := "MemberScannerLaw"
def lw_P (b : Addr) (xs : List Int32) (args : Array Value) (s : State) : Prop := args = #[.ref b] ∧ s.IntsAt b xs ∧ xs.length ≤ 4096 ∧ (Jvm.Cond.and given_1 narrow_1).before args s = true
/-- what a walk over the start with the record d0 says of its end, said of the start itself -/
theorem lw_closed {s t : State} {o : Outcome} {d0 : Drawn} {L : List Loc} {k n : Nat} (hd0 : s.drawn.sameBut d0 lw_cs) (hv : ∃ v, o = .returned v) (hW : (s.setDrawn d0).WarmedH t.vm) (hs : (s.setDrawn d0).sameButNew ({ t with vm := s.vm } : State) L k n) : State.butDraws s t lw_cs (fun t1 => Framed s o t1 L k n) := by
  have h2 : t.drawn = d0 := congrArg State.drawn hs.1
  refine ⟨⟨hv, hW, State.sameButNew.setDrawn hs s.drawn⟩, ?_, by decide⟩
  rw [h2]
  exact hd0
def lw_Q (_ : Array Value) (s : State) (o : Outcome) (t : State) : Prop := o = .returned (some (.int 1)) ∧ State.butDraws s t lw_cs (fun t1 => Framed s o t1 [] 600000 7302250)
def lw_Z (below : List Frame) (a : Array Value) (s : State) : State → Prop := fun t => ∃ o, t.status = .running ∧ Ended t below o ∧ lw_Q a s o t
/-- the law's own end, with 1 on the stack, nothing written that was there before, its room as the claim has it; d0: the record of draws at this point (at the entry s.drawn: begin with 'refine W.base ?_' and 'have hd0 := Drawn.sameBut.refl s.drawn lw_cs') -/
theorem lw_ret {p : Program} {l : Launch} {e : Env} {s : State} {m : MethodId} {below : List Frame} {meth : Method} {c : Code} {b : Nat} {d0 : Drawn} (hd0 : s.drawn.sameBut d0 lw_cs) (hx : p.tables.exec = Jvm.exec) (hb : c.code = code) (hr : meth.sig.returnType = ret) (hlocks : meth.locks = false) {pc : Nat} {H : Heap} {ls : Array Slot} (hdg : decode code pc = .ok (.ireturn, 1)) : W p l e room_1 (s.setDrawn d0) m #[Value.ref b] below meth c H [] 600000 7302250 (lw_Z below #[Value.ref b] s) (F0 m pc ls [.int 1]) := by
  intro T hT X
  obtain ⟨fs, hret, hrun, hended, hW, hframe⟩ := X.leave (v := some (.int 1)) (hlocks := hlocks) (fun h => by rw [hr] at h; cases h)
  have hmeth' : T.vm.method? m = some meth := X.method'
  refine ⟨T.setFrames fs, ?_, .returned (some (.int 1)), hrun, hended, rfl, lw_closed hd0 ⟨_, rfl⟩ hW hframe⟩
  jvm_step X.here [X.here.top, hx, hb, hdg, hmeth', hr, ret, narrow_b1]
  (try refine ⟨rfl, ?_⟩); (try refine ⟨rfl, ?_⟩)
  first | (intro acts; rw [hret _ acts rfl rfl rfl]) | rw [hret _ _ rfl rfl rfl]
  exact Steps.refl _
/-- what holds at the law's entry: the machine, the code, the tables' words (any of lw_tbl by 'hts w (by decide +kernel)'), the script of L ints xs at the cell b, what the Statement gives of the start (any of its parts by flat_of_before) -/
def lw_At (p : Program) (s : State) (m : MethodId) (meth : Method) (c : Code) (b L : Nat) (xs : Nat → Int32) : Prop :=
  p.tables.exec = Jvm.exec ∧ c.code = code ∧ meth.sig.returnType = ret ∧ c.maxLocals = 4 ∧ s.vm.findClass R_law = some m.cls ∧ (∀ w ∈ lw_tbl, w.before #[Value.ref b] s = true) ∧ va_X b L xs s s.heap ∧ b < s.heap.size ∧ meth.locks = false ∧ (Jvm.Cond.and given_1 narrow_1).before #[Value.ref b] s = true
theorem dL_law_0 : decode cL_law 0 = .ok (.new 7, 3) := by decide +kernel
theorem dL_law_3 : decode cL_law 3 = .ok (.dup, 1) := by decide +kernel
theorem dL_law_4 : decode cL_law 4 = .ok (.invokespecial 9, 3) := by decide +kernel
theorem dL_law_7 : decode cL_law 7 = .ok (.astore_n 1, 1) := by decide +kernel
theorem dL_law_8 : decode cL_law 8 = .ok (.new 10, 3) := by decide +kernel
theorem dL_law_11 : decode cL_law 11 = .ok (.dup, 1) := by decide +kernel
theorem dL_law_12 : decode cL_law 12 = .ok (.invokespecial 12, 3) := by decide +kernel
theorem dL_law_15 : decode cL_law 15 = .ok (.astore_n 2, 1) := by decide +kernel
theorem dL_law_16 : decode cL_law 16 = .ok (.iconst 0, 1) := by decide +kernel
theorem dL_law_17 : decode cL_law 17 = .ok (.istore_n 3, 1) := by decide +kernel
theorem dL_law_18 : decode cL_law 18 = .ok (.iload_n 3, 1) := by decide +kernel
theorem dL_law_19 : decode cL_law 19 = .ok (.aload_n 0, 1) := by decide +kernel
theorem dL_law_20 : decode cL_law 20 = .ok (.arraylength, 1) := by decide +kernel
theorem dL_law_21 : decode cL_law 21 = .ok (.bipush 8, 2) := by decide +kernel
theorem dL_law_23 : decode cL_law 23 = .ok (.isub, 1) := by decide +kernel
theorem dL_law_24 : decode cL_law 24 = .ok (.if_icmp .gt 1881, 3) := by decide +kernel
theorem dL_law_27 : decode cL_law 27 = .ok (.aload_n 0, 1) := by decide +kernel
theorem dL_law_28 : decode cL_law 28 = .ok (.iload_n 3, 1) := by decide +kernel
theorem dL_law_29 : decode cL_law 29 = .ok (.iaload, 1) := by decide +kernel
theorem dL_law_30 : decode cL_law 30 = .ok (.bipush 63, 2) := by decide +kernel
theorem dL_law_32 : decode cL_law 32 = .ok (.iand, 1) := by decide +kernel
theorem dL_law_33 : decode cL_law 33 = .ok (.tableswitch 1866 0 40 #[179, 212, 245, 278, 353, 386, 419, 452, 475, 498, 531, 574, 597, 640, 663, 696, 729, 772, 815, 868, 901, 944, 998, 1093, 1156, 1210, 1264, 1351, 1394, 1417, 1450, 1513, 1556, 1580, 1604, 1678, 1721, 1764, 1797, 1830, 1843], 179) := by decide +kernel
theorem dL_law_1899 : decode cL_law 1899 = .ok (.iinc 3 8, 3) := by decide +kernel
theorem dL_law_1902 : decode cL_law 1902 = .ok (.goto (-1884), 3) := by decide +kernel
theorem dL_law_1905 : decode cL_law 1905 = .ok (.iconst 1, 1) := by decide +kernel
theorem dL_law_1906 : decode cL_law 1906 = .ok (.ireturn, 1) := by decide +kernel
theorem lb_9 : mz_MB RL 9 yX11_init cX11_init 1 none 0 := ⟨mz_tb 60 (by decide +kernel) rfl, mz_tb 40 (by decide +kernel) rfl, mz_tb 62 (by decide +kernel) rfl, by decide, by decide, by decide +kernel⟩
theorem li_X11_init : Cond.instanceMethod yX11_init ∈ mz_tbl := mz_tb 61 (by decide +kernel) rfl
theorem lb_12 : mz_MB RL 12 yX12_init cX12_init 1 none 0 := ⟨mz_tb 959 (by decide +kernel) rfl, mz_tb 45 (by decide +kernel) rfl, mz_tb 961 (by decide +kernel) rfl, by decide, by decide, by decide +kernel⟩
theorem li_X12_init : Cond.instanceMethod yX12_init ∈ mz_tbl := mz_tb 960 (by decide +kernel) rfl
theorem lw_arrP {s : State} {args : Array Value} {ty : FieldType} (hp : ty = .int ∨ ty = .long ∨ ty = .boolean) (h : (Cond.arrayClass ty).before args s = true) : ∃ cA, ArrOfT s cA ty ∧ va_RA s cA ty := by
  obtain ⟨c, k, comp, h1, h2, h3⟩ := Cond.arrayClass_spec h
  refine ⟨c, fun n z => ⟨fun k h => (by cases h), k, h2, comp, h3⟩, ?_⟩
  rcases hp with rfl | rfl | rfl <;> exact h1
theorem lw_arrO {s : State} {args : Array Value} {C : String} (h : (Cond.arrayOver (.object C)).before args s = true) : ∃ cA, ArrOfT s cA (.object C) ∧ va_RA s cA (.object C) := by
  obtain ⟨comp, c, k, h1, -, h3, h4, h5⟩ := Cond.arrayOver_spec h
  exact ⟨c, fun n z => ⟨fun k h => (by cases h), k, h3, comp, h4⟩, k, comp, h3, h4, h1, h5⟩
set_option maxHeartbeats 4000000 in
set_option maxRecDepth 100000 in
theorem lw_KZ {s : State} {b : Nat} (hts : ∀ w ∈ lw_tbl, w.before #[Value.ref b] s = true) (hgv : (Jvm.Cond.and given_1 narrow_1).before #[Value.ref b] s = true) : ∃ g : mz_G, mz_K g s ∧ mz_Z g (fun q : Nat => s.heap.size ≤ q) s s.heap := by
  have htm : ∀ w ∈ mz_tbl, w.before #[Value.ref b] s = true := fun w hw => hts w (List.mem_filter.mp hw).1
  obtain ⟨c0, i0, k0⟩ := u_known (C := RX0) (T := TX0) (N := 4) (n := 4) htm cl_0 (htm _ (mz_tb 180 (by decide +kernel) rfl))
  obtain ⟨c1, i1, k1⟩ := u_known (C := RX1) (T := TX1) (N := 8) (n := 8) htm cl_1 (htm _ (mz_tb 103 (by decide +kernel) rfl))
  obtain ⟨c2, i2, k2⟩ := u_known (C := RX2) (T := TX2) (N := 5) (n := 5) htm cl_2 (htm _ (mz_tb 361 (by decide +kernel) rfl))
  obtain ⟨c3, i3, k3⟩ := u_known (C := RX4) (T := TX4) (N := 2) (n := 2) htm cl_3 (htm _ (mz_tb 907 (by decide +kernel) rfl))
  obtain ⟨c4, i4, k4⟩ := u_known (C := RX5) (T := TX5) (N := 1) (n := 1) htm cl_4 (htm _ (mz_tb 512 (by decide +kernel) rfl))
  obtain ⟨c5, i5, k5⟩ := u_known (C := RX6) (T := TX6) (N := 6) (n := 6) htm cl_5 (htm _ (mz_tb 505 (by decide +kernel) rfl))
  obtain ⟨c6, i6, k6⟩ := u_known (C := RX7) (T := TX7) (N := 7) (n := 7) htm cl_6 (htm _ (mz_tb 96 (by decide +kernel) rfl))
  obtain ⟨c7, i7, k7⟩ := u_known (C := RX8) (T := TX8) (N := 2) (n := 2) htm cl_7 (htm _ (mz_tb 498 (by decide +kernel) rfl))
  obtain ⟨c8, i8, k8⟩ := u_known (C := RX9) (T := TX9) (N := 11) (n := 11) htm cl_8 (htm _ (mz_tb 247 (by decide +kernel) rfl))
  obtain ⟨c9, i9, k9⟩ := u_known (C := RX10) (T := TX10) (N := 5) (n := 5) htm cl_9 (htm _ (mz_tb 67 (by decide +kernel) rfl))
  obtain ⟨c10, i10, k10⟩ := u_known (C := RX11) (T := TX11) (N := 10) (n := 10) htm cl_10 (htm _ (mz_tb 59 (by decide +kernel) rfl))
  obtain ⟨c11, i11, k11⟩ := u_known (C := RX12) (T := TX12) (N := 52) (n := 52) htm cl_11 (htm _ (mz_tb 958 (by decide +kernel) rfl))
  obtain ⟨a0, r0⟩ := lw_arrP (ty := .int) (by simp) (hts _ (List.mem_of_getElem? (i := 93) (by decide +kernel)))
  obtain ⟨a1, r1⟩ := lw_arrP (ty := .long) (by simp) (hts _ (List.mem_of_getElem? (i := 201) (by decide +kernel)))
  obtain ⟨a2, r2⟩ := lw_arrP (ty := .boolean) (by simp) (hts _ (List.mem_of_getElem? (i := 94) (by decide +kernel)))
  have o11 : (Cond.arrayOver (.object "MemberScanner$Entry")).before #[Value.ref b] s = true := hts _ (List.mem_of_getElem? (i := 102) (by decide +kernel))
  obtain ⟨a11, r11⟩ := lw_arrO o11
  have o12 : (Cond.arrayOver (.object "MemberScanner$Member")).before #[Value.ref b] s = true := hts _ (List.mem_of_getElem? (i := 253) (by decide +kernel))
  obtain ⟨a12, r12⟩ := lw_arrO o12
  have o13 : (Cond.arrayOver (.object "MemberScanner$Roster")).before #[Value.ref b] s = true := hts _ (List.mem_of_getElem? (i := 203) (by decide +kernel))
  obtain ⟨a13, r13⟩ := lw_arrO o13
  have o14 : (Cond.arrayOver (.object "MemberScanner$Row")).before #[Value.ref b] s = true := hts _ (List.mem_of_getElem? (i := 610) (by decide +kernel))
  obtain ⟨a14, r14⟩ := lw_arrO o14
  have o15 : (Cond.arrayOver (.object "MemberScanner$Slot")).before #[Value.ref b] s = true := hts _ (List.mem_of_getElem? (i := 504) (by decide +kernel))
  obtain ⟨a15, r15⟩ := lw_arrO o15
  have o17 : (Cond.arrayOver (.object "MemberScanner$Thing")).before #[Value.ref b] s = true := hts _ (List.mem_of_getElem? (i := 178) (by decide +kernel))
  obtain ⟨a17, r17⟩ := lw_arrO o17
  have o18 : (Cond.arrayOver (.object "MemberScanner$Type")).before #[Value.ref b] s = true := hts _ (List.mem_of_getElem? (i := 73) (by decide +kernel))
  obtain ⟨a18, r18⟩ := lw_arrO o18
  have hs := flat_of_before _ hgv
  have hA : ∀ a : Nat, a < s.heap.size → ¬ (fun q : Nat => s.heap.size ≤ q) a := fun a h => Nat.not_le.mpr h
  obtain ⟨wid, hwid, hT⟩ := va_Tof (tm := .static "MemberScanner$Numbers" "WIDENED_TO" "[I") (ty := .int) (N := 9) (f := fun j => .int (mz_wt j)) (A := fun q : Nat => s.heap.size ≤ q) (by decide) (hs _ (by decide +kernel)) (va_eqt (hs (Cond.eq (.length (.static "MemberScanner$Numbers" "WIDENED_TO" "[I")) (.int 9)) (by decide +kernel))) (fun j hj => by
    rcases (show j = 0 ∨ j = 1 ∨ j = 2 ∨ j = 3 ∨ j = 4 ∨ j = 5 ∨ j = 6 ∨ j = 7 ∨ j = 8 by omega) with rfl | rfl | rfl | rfl | rfl | rfl | rfl | rfl | rfl
    · exact va_eqt (hs (Cond.eq (.elem (.static "MemberScanner$Numbers" "WIDENED_TO" "[I") (.int 0)) (.int 123)) (by decide +kernel))
    · exact va_eqt (hs (Cond.eq (.elem (.static "MemberScanner$Numbers" "WIDENED_TO" "[I") (.int 1)) (.int 122)) (by decide +kernel))
    · exact va_eqt (hs (Cond.eq (.elem (.static "MemberScanner$Numbers" "WIDENED_TO" "[I") (.int 2)) (.int 124)) (by decide +kernel))
    · exact va_eqt (hs (Cond.eq (.elem (.static "MemberScanner$Numbers" "WIDENED_TO" "[I") (.int 3)) (.int 120)) (by decide +kernel))
    · exact va_eqt (hs (Cond.eq (.elem (.static "MemberScanner$Numbers" "WIDENED_TO" "[I") (.int 4)) (.int 112)) (by decide +kernel))
    · exact va_eqt (hs (Cond.eq (.elem (.static "MemberScanner$Numbers" "WIDENED_TO" "[I") (.int 5)) (.int 96)) (by decide +kernel))
    · exact va_eqt (hs (Cond.eq (.elem (.static "MemberScanner$Numbers" "WIDENED_TO" "[I") (.int 6)) (.int 64)) (by decide +kernel))
    · exact va_eqt (hs (Cond.eq (.elem (.static "MemberScanner$Numbers" "WIDENED_TO" "[I") (.int 7)) (.int 128)) (by decide +kernel))
    · exact va_eqt (hs (Cond.eq (.elem (.static "MemberScanner$Numbers" "WIDENED_TO" "[I") (.int 8)) (.int 0)) (by decide +kernel))) hA
  have hZ := va_Zof (A := fun q : Nat => s.heap.size ≤ q) (hts (.laysStatic "MemberScanner$Numbers" "WIDENED_TO" "[I") (List.mem_of_getElem? (i := 732) (by decide +kernel))) (htm _ (mz_tb 53 (by decide +kernel) rfl)) hwid hA
  refine ⟨((fun k => if k = 0 then c0 else if k = 1 then c1 else if k = 2 then c2 else if k = 3 then c3 else if k = 4 then c4 else if k = 5 then c5 else if k = 6 then c6 else if k = 7 then c7 else if k = 8 then c8 else if k = 9 then c9 else if k = 10 then c10 else c11, fun k => if k = 0 then i0 else if k = 1 then i1 else if k = 2 then i2 else if k = 3 then i3 else if k = 4 then i4 else if k = 5 then i5 else if k = 6 then i6 else if k = 7 then i7 else if k = 8 then i8 else if k = 9 then i9 else if k = 10 then i10 else i11), fun t => if t = 0 then a0 else if t = 1 then a1 else if t = 2 then a2 else if t = 11 then a11 else if t = 12 then a12 else if t = 13 then a13 else if t = 14 then a14 else if t = 15 then a15 else if t = 17 then a17 else a18, wid), ⟨⟨?_, fun k q h => by simp at h⟩, ?_, ?_, va_Nw.of rfl (hts _ (List.mem_of_getElem? (i := 68) (by decide +kernel))), va_Nw.of rfl (hts _ (List.mem_of_getElem? (i := 181) (by decide +kernel))), va_Nw.of rfl (hts _ (List.mem_of_getElem? (i := 441) (by decide +kernel))), va_Nw.of rfl (hts _ (List.mem_of_getElem? (i := 785) (by decide +kernel)))⟩, hZ, hT⟩
  · intro k q hq
    match k, hq with
    | 0, hq => cases hq; exact k0
    | 1, hq => cases hq; exact k1
    | 2, hq => cases hq; exact k2
    | 3, hq => cases hq; exact k3
    | 4, hq => cases hq; exact k4
    | 5, hq => cases hq; exact k5
    | 6, hq => cases hq; exact k6
    | 7, hq => cases hq; exact k7
    | 8, hq => cases hq; exact k8
    | 9, hq => cases hq; exact k9
    | 10, hq => cases hq; exact k10
    | 11, hq => cases hq; exact k11
    | k + 12, hq => simp [vwCl] at hq
  · intro t ht
    rcases (show t = 0 ∨ t = 1 ∨ t = 2 ∨ t = 11 ∨ t = 12 ∨ t = 13 ∨ t = 14 ∨ t = 15 ∨ t = 17 ∨ t = 18 by simpa [mz_tags] using ht) with rfl | rfl | rfl | rfl | rfl | rfl | rfl | rfl | rfl | rfl
    · exact r0
    · exact r1
    · exact r2
    · exact r11
    · exact r12
    · exact r13
    · exact r14
    · exact r15
    · exact r17
    · exact r18
  · intro C hC
    rcases (show C = "MemberScanner$Entry" ∨ C = "MemberScanner$Member" ∨ C = "MemberScanner$Roster" ∨ C = "MemberScanner$Row" ∨ C = "MemberScanner$Slot" ∨ C = "MemberScanner$Thing" ∨ C = "MemberScanner$Type" by simpa using hC) with rfl | rfl | rfl | rfl | rfl | rfl | rfl
    · exact va_AO.of o11
    · exact va_AO.of o12
    · exact va_AO.of o13
    · exact va_AO.of o14
    · exact va_AO.of o15
    · exact va_AO.of o17
    · exact va_AO.of o18
section
variable {p : Program} {l : Launch} {e : Env} {s : State} {m : MethodId} {below : List Frame} {meth : Method} {c : Code} {H : Heap} {locs : List Loc} {cells slots : Nat} {Q : State → Prop} {ls : Array Slot} {g : mz_G} {b L : Nat} {xs : Nat → Int32} {VB o q k : Nat} {rs : mz_RS} {h : mz_H} {x3 : Int32}
theorem lw_less (I : lw_I g s VB o q (k + 1) rs h H locs cells slots) : lw_I g s VB o q k rs h H locs cells slots := ⟨I.1.less, I.2.1, by have := I.2.2.1; omega, by have := I.2.2.2; omega⟩
set_option maxHeartbeats 8000000 in
set_option maxRecDepth 100000 in
theorem lw_loop (hL : L ≤ 4096) (X : mz_X p g RL cL_law 4 (fun q : Nat => s.heap.size ≤ q) s m #[Value.ref b] c) (hret : meth.sig.returnType = ret) (hlocks : meth.locks = false) (hX : va_X b L xs s s.heap) (hbl : b < s.heap.size) : ∀ (k t : Nat) (rs : mz_RS) (h : mz_H) (H : Heap) (locs : List Loc) (cells slots : Nat) (ls : Array Slot), L < 8 * (t + k) + 8 → 8 * t ≤ 4096 → lw_I g s VB o q k rs h H locs cells slots → mz_L ls 4 [(0, false, va_rf (some b)), (1, false, va_rf (some o)), (2, false, va_rf (some q)), (3, false, .int (nI (8 * t)))] → W p l e room_1 s m #[Value.ref b] below meth c H locs cells slots (lw_Z below #[Value.ref b] s) (F0 m 18 ls []) := by
  have hbA : ¬ (fun q : Nat => s.heap.size ≤ q) b := Nat.not_le.mpr hbl
  intro k
  induction k with
  | zero =>
    intro t rs h H locs cells slots ls h1 h2 I hl
    have hgt : nI L - 8 < nI (8 * t) := by
      rw [← zI_n, ← zI_n, show (8 : Int32) = zI 8 from rfl, zI_sub, zI_lt (by omega) (by omega) (by omega) (by omega)]
      omega
    refine lv_iload_n X.1 X.2.1 dL_law_18 rfl (mz_at hl 3 rfl) ?_
    refine mz_aload_n X dL_law_19 rfl (mz_at hl 0 rfl) ?_
    refine va_slen X.1 X.2.1 hX hbl hbA I.2.1.2.2.2 dL_law_20 ?_
    refine lv_bipush (v := 8) X.1 X.2.1 dL_law_21 (by decide) ?_
    refine lv_isub X.1 X.2.1 dL_law_23 ?_
    refine lv_icmp_gt (tgt := 1905) X.1 X.2.1 dL_law_24 (by decide) (fun _ => ?_) (fun z => absurd hgt z)
    refine lv_iconst (v := 1) X.1 X.2.1 dL_law_1905 (by decide) ?_
    refine va_forget (fun q hq => I.2.1.2.2.2.2.2 q hq) ?_
    refine W.widen (k := 600000) (n := 7302250) (by have := I.2.2.1; omega) (by have := I.2.2.2; omega) ?_
    exact lw_ret (d0 := s.drawn) (Drawn.sameBut.refl s.drawn lw_cs) X.1 X.2.1 hret hlocks dL_law_1906
  | succ k ih =>
    intro t rs h H locs cells slots ls h1 h2 I hl
    refine lv_iload_n X.1 X.2.1 dL_law_18 rfl (mz_at hl 3 rfl) ?_
    refine mz_aload_n X dL_law_19 rfl (mz_at hl 0 rfl) ?_
    refine va_slen X.1 X.2.1 hX hbl hbA I.2.1.2.2.2 dL_law_20 ?_
    refine lv_bipush (v := 8) X.1 X.2.1 dL_law_21 (by decide) ?_
    refine lv_isub X.1 X.2.1 dL_law_23 ?_
    refine lv_icmp_gt (tgt := 1905) X.1 X.2.1 dL_law_24 (by decide) (fun _ => ?_) (fun z => ?_)
    · refine lv_iconst (v := 1) X.1 X.2.1 dL_law_1905 (by decide) ?_
      refine va_forget (fun q hq => I.2.1.2.2.2.2.2 q hq) ?_
      refine W.widen (k := 600000) (n := 7302250) (by have := I.2.2.1; omega) (by have := I.2.2.2; omega) ?_
      exact lw_ret (d0 := s.drawn) (Drawn.sameBut.refl s.drawn lw_cs) X.1 X.2.1 hret hlocks dL_law_1906
    · have hle : 8 * t + 8 ≤ L := by
        rcases Nat.lt_or_ge L (8 * t + 8) with y | y
        · exfalso
          apply z
          show nI L - 8 < nI (8 * t)
          rw [← zI_n, ← zI_n, show (8 : Int32) = zI 8 from rfl, zI_sub, zI_lt (by omega) (by omega) (by omega) (by omega)]
          omega
        · exact y
      have hin : ∀ j : Nat, j < 8 → vp_in (nI (8 * t) + nI j) L := fun j hj => by
        rw [nI_add]
        exact vp_in_nI (show 8 * t + j < L by omega) (by omega)
      have hin0 : vp_in (nI (8 * t)) L := vp_in_nI (show 8 * t < L by omega) (by omega)
      have cont : ∀ rs' h' H' locs' cells' slots', lw_I g s VB o q k rs' h' H' locs' cells' slots' → W p l e room_1 s m #[Value.ref b] below meth c H' locs' cells' slots' (lw_Z below #[Value.ref b] s) (F0 m 1899 ls []) := fun rs' h' H' locs' cells' slots' I' => by
        refine mz_iinc (k := 3) X [(3, false, .int (nI (8 * (t + 1)))), (0, false, va_rf (some b)), (1, false, va_rf (some o)), (2, false, va_rf (some q))] (nI (8 * (t + 1))) dL_law_1899 hl rfl (show nI (8 * t) + nI 8 = nI (8 * (t + 1)) by rw [nI_add]; congr 1) (by decide) rfl (fun ls hl => ?_)
        refine lv_goto (tgt := 18) X.1 X.2.1 dL_law_1902 (by decide) ?_
        exact ih (t + 1) rs' h' H' locs' cells' slots' ls (by omega) (by omega) I' (mz_sub hl [1, 2, 3, 0] rfl)
      refine mz_aload_n X dL_law_27 rfl (mz_at hl 0 rfl) ?_
      refine lv_iload_n X.1 X.2.1 dL_law_28 rfl (mz_at hl 3 rfl) ?_
      refine va_sld X.1 X.2.1 hX hbl hbA I.2.1.2.2.2 hin0 dL_law_29 ?_
      refine lv_bipush (v := 63) X.1 X.2.1 dL_law_30 (by decide) ?_
      refine lv_iand X.1 X.2.1 dL_law_32 ?_
      generalize xs (nI (8 * t)).toNatClampNeg &&& 63 = y
      rcases mz_arg y (show 41 < 2 ^ 31 by decide) with c1 | ⟨-, c2⟩ | ⟨j, hj, rfl, -, -⟩
      · refine mz_tout X dL_law_33 1899 (Or.inl ?_) (by decide) (cont _ _ _ _ _ _ (lw_less I))
        exact Int32.lt_iff_toInt_lt.mp c1
      · refine mz_tout X dL_law_33 1899 (Or.inr ?_) (by decide) (cont _ _ _ _ _ _ (lw_less I))
        have := Int32.le_iff_toInt_le.mp c2
        rw [show (nI 41).toInt = 41 from rfl] at this
        omega
      · rcases (show j = 0 ∨ j = 1 ∨ j = 2 ∨ j = 3 ∨ j = 4 ∨ j = 5 ∨ j = 6 ∨ j = 7 ∨ j = 8 ∨ j = 9 ∨ j = 10 ∨ j = 11 ∨ j = 12 ∨ j = 13 ∨ j = 14 ∨ j = 15 ∨ j = 16 ∨ j = 17 ∨ j = 18 ∨ j = 19 ∨ j = 20 ∨ j = 21 ∨ j = 22 ∨ j = 23 ∨ j = 24 ∨ j = 25 ∨ j = 26 ∨ j = 27 ∨ j = 28 ∨ j = 29 ∨ j = 30 ∨ j = 31 ∨ j = 32 ∨ j = 33 ∨ j = 34 ∨ j = 35 ∨ j = 36 ∨ j = 37 ∨ j = 38 ∨ j = 39 ∨ j = 40 by omega) with rfl | rfl | rfl | rfl | rfl | rfl | rfl | rfl | rfl | rfl | rfl | rfl | rfl | rfl | rfl | rfl | rfl | rfl | rfl | rfl | rfl | rfl | rfl | rfl | rfl | rfl | rfl | rfl | rfl | rfl | rfl | rfl | rfl | rfl | rfl | rfl | rfl | rfl | rfl | rfl | rfl
        · exact mz_tin (v := 0) X dL_law_33 rfl 212 (by decide) (by decide) rfl (by decide) (lc_0 X hX hbl hin I hl cont)
        · exact mz_tin (v := 1) X dL_law_33 rfl 245 (by decide) (by decide) rfl (by decide) (lc_1 X hX hbl hin I hl cont)
        · exact mz_tin (v := 2) X dL_law_33 rfl 278 (by decide) (by decide) rfl (by decide) (lc_2 X hX hbl hin I hl cont)
        · exact mz_tin (v := 3) X dL_law_33 rfl 311 (by decide) (by decide) rfl (by decide) (lc_3 X hX hbl hin I hl cont)
        · exact mz_tin (v := 4) X dL_law_33 rfl 386 (by decide) (by decide) rfl (by decide) (lc_4 X hX hbl hin I hl cont)
        · exact mz_tin (v := 5) X dL_law_33 rfl 419 (by decide) (by decide) rfl (by decide) (lc_5 X hX hbl hin I hl cont)
        · exact mz_tin (v := 6) X dL_law_33 rfl 452 (by decide) (by decide) rfl (by decide) (lc_6 X hX hbl hin I hl cont)
        · exact mz_tin (v := 7) X dL_law_33 rfl 485 (by decide) (by decide) rfl (by decide) (lc_7 X hX hbl hin I hl cont)
        · exact mz_tin (v := 8) X dL_law_33 rfl 508 (by decide) (by decide) rfl (by decide) (lc_8 X hX hbl hin I hl cont)
        · exact mz_tin (v := 9) X dL_law_33 rfl 531 (by decide) (by decide) rfl (by decide) (lc_9 X hX hbl hin I hl cont)
        · exact mz_tin (v := 10) X dL_law_33 rfl 564 (by decide) (by decide) rfl (by decide) (lc_10 X hX hbl hin I hl cont)
        · exact mz_tin (v := 11) X dL_law_33 rfl 607 (by decide) (by decide) rfl (by decide) (lc_11 X hX hbl hin I hl cont)
        · exact mz_tin (v := 12) X dL_law_33 rfl 630 (by decide) (by decide) rfl (by decide) (lc_12 X hX hbl hin I hl cont)
        · exact mz_tin (v := 13) X dL_law_33 rfl 673 (by decide) (by decide) rfl (by decide) (lc_13 X hX hbl hin I hl cont)
        · exact mz_tin (v := 14) X dL_law_33 rfl 696 (by decide) (by decide) rfl (by decide) (lc_14 X hX hbl hin I hl cont)
        · exact mz_tin (v := 15) X dL_law_33 rfl 729 (by decide) (by decide) rfl (by decide) (lc_15 X hX hbl hin I hl cont)
        · exact mz_tin (v := 16) X dL_law_33 rfl 762 (by decide) (by decide) rfl (by decide) (lc_16 X hX hbl hin I hl cont)
        · exact mz_tin (v := 17) X dL_law_33 rfl 805 (by decide) (by decide) rfl (by decide) (lc_17 X hX hbl hin I hl cont)
        · exact mz_tin (v := 18) X dL_law_33 rfl 848 (by decide) (by decide) rfl (by decide) (lc_18 X hX hbl hin I hl cont)
        · exact mz_tin (v := 19) X dL_law_33 rfl 901 (by decide) (by decide) rfl (by decide) (lc_19 X hX hbl hin I hl cont)
        · exact mz_tin (v := 20) X dL_law_33 rfl 934 (by decide) (by decide) rfl (by decide) (lc_20 X hX hbl hin I hl cont)
        · exact mz_tin (v := 21) X dL_law_33 rfl 977 (by decide) (by decide) rfl (by decide) (lc_21 X hX hbl hin I hl cont)
        · exact mz_tin (v := 22) X dL_law_33 rfl 1031 (by decide) (by decide) rfl (by decide) (lc_22 X hX hbl hin I hl cont)
        · exact mz_tin (v := 23) X dL_law_33 rfl 1126 (by decide) (by decide) rfl (by decide) (lc_23 X hX hbl hin I hl cont)
        · exact mz_tin (v := 24) X dL_law_33 rfl 1189 (by decide) (by decide) rfl (by decide) (lc_24 X hX hbl hin I hl cont)
        · exact mz_tin (v := 25) X dL_law_33 rfl 1243 (by decide) (by decide) rfl (by decide) (lc_25 X hX hbl hin I hl cont)
        · exact mz_tin (v := 26) X dL_law_33 rfl 1297 (by decide) (by decide) rfl (by decide) (lc_26 X hX hbl hin I hl cont)
        · exact mz_tin (v := 27) X dL_law_33 rfl 1384 (by decide) (by decide) rfl (by decide) (lc_27 X hX hbl hin I hl cont)
        · exact mz_tin (v := 28) X dL_law_33 rfl 1427 (by decide) (by decide) rfl (by decide) (lc_28 X hX hbl hin I hl cont)
        · exact mz_tin (v := 29) X dL_law_33 rfl 1450 (by decide) (by decide) rfl (by decide) (lc_29 X hX hbl hin I hl cont)
        · exact mz_tin (v := 30) X dL_law_33 rfl 1483 (by decide) (by decide) rfl (by decide) (lc_30 X hX hbl hin I hl cont)
        · exact mz_tin (v := 31) X dL_law_33 rfl 1546 (by decide) (by decide) rfl (by decide) (lc_31 X hX hbl hin I hl cont)
        · exact mz_tin (v := 32) X dL_law_33 rfl 1589 (by decide) (by decide) rfl (by decide) (lc_32 X hX hbl hin I hl cont)
        · exact mz_tin (v := 33) X dL_law_33 rfl 1613 (by decide) (by decide) rfl (by decide) (lc_33 X hX hbl hin I hl cont)
        · exact mz_tin (v := 34) X dL_law_33 rfl 1637 (by decide) (by decide) rfl (by decide) (lc_34 X hX hbl hin I hl cont)
        · exact mz_tin (v := 35) X dL_law_33 rfl 1711 (by decide) (by decide) rfl (by decide) (lc_35 X hX hbl hin I hl cont)
        · exact mz_tin (v := 36) X dL_law_33 rfl 1754 (by decide) (by decide) rfl (by decide) (lc_36 X hX hbl hin I hl cont)
        · exact mz_tin (v := 37) X dL_law_33 rfl 1797 (by decide) (by decide) rfl (by decide) (lc_37 X hX hbl hin I hl cont)
        · exact mz_tin (v := 38) X dL_law_33 rfl 1830 (by decide) (by decide) rfl (by decide) (lc_38 X hX hbl hin I hl cont)
        · exact mz_tin (v := 39) X dL_law_33 rfl 1863 (by decide) (by decide) rfl (by decide) (lc_39 X hX hbl hin I hl cont)
        · exact mz_tin (v := 40) X dL_law_33 rfl 1876 (by decide) (by decide) rfl (by decide) (lc_40 X hX hbl hin I hl cont)
end

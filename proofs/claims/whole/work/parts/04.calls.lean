/-! locals with the sizes of their values; calls; returns; branches -/
theorem mz_cat_rf (r : Option Nat) : (va_rf r).category = 1 := by cases r <;> rfl
def mz_cat (b : Bool) : Nat := if b then 2 else 1
def mz_L (ls : Array Slot) (nL : Nat) (lv : List (Nat × Bool × Value)) : Prop := lv_has ls nL (lv.map fun q => (q.1, q.2.2)) ∧ ∀ q ∈ lv, q.2.2.category = mz_cat q.2.1
theorem mz_at {ls : Array Slot} {nL : Nat} {lv : List (Nat × Bool × Value)} (h : mz_L ls nL lv) (k : Nat) {i : Nat} {b : Bool} {v : Value} (hk : lv[k]? = some (i, b, v)) : ls[i]? = some (.val v) := by
  refine h.1.2.2 (i, v) ?_
  exact List.mem_map.mpr ⟨(i, b, v), List.mem_of_getElem? hk, rfl⟩
theorem mz_sub {ls : Array Slot} {nL : Nat} {lv lv' : List (Nat × Bool × Value)} (h : mz_L ls nL lv) (ks : List Nat) (hl : ks.filterMap (fun k => lv[k]?) = lv') : mz_L ls nL lv' := by
  subst hl
  have hm : ∀ q ∈ ks.filterMap (fun k => lv[k]?), q ∈ lv := fun q hq => by
    obtain ⟨k, -, hk⟩ := List.mem_filterMap.mp hq
    exact List.mem_of_getElem? hk
  refine ⟨⟨h.1.1, h.1.2.1, fun q hq => ?_⟩, fun q hq => h.2 q (hm q hq)⟩
  obtain ⟨x, hx, rfl⟩ := List.mem_map.mp hq
  exact h.1.2.2 _ (List.mem_map.mpr ⟨x, hm x hx, rfl⟩)
theorem mz_st1 {ls : Array Slot} {nL : Nat} {lv : List (Nat × Bool × Value)} {i : Nat} {v : Value} (h : mz_L ls nL lv) (hi : i < nL) (hc : v.category = 1) : ∃ ls', storeLocals ls i v = some ls' ∧ mz_L ls' nL ((i, false, v) :: lv.filter (fun q => !(q.1 == i) && !(q.1 + 1 == i && q.2.1))) := by
  obtain ⟨ls', e, h1, h2, h3⟩ := lv_store1 (v := v) h.1 hi hc
  refine ⟨ls', e, ⟨h1, h2, fun q hq => ?_⟩, fun q hq => ?_⟩
  · obtain ⟨x, hx, rfl⟩ := List.mem_map.mp hq
    rcases List.mem_cons.mp hx with rfl | hx
    · exact h3 _ List.mem_cons_self
    · obtain ⟨hx1, hx2⟩ := List.mem_filter.mp hx
      refine h3 _ (List.mem_cons_of_mem _ (List.mem_filter.mpr ⟨List.mem_map.mpr ⟨x, hx1, rfl⟩, ?_⟩))
      have hcx := h.2 x hx1
      simp only [Bool.and_eq_true, Bool.not_eq_true'] at hx2 ⊢
      refine ⟨hx2.1, ?_⟩
      rw [hcx]
      cases hb : x.2.1 <;> simp_all [mz_cat]
  · rcases List.mem_cons.mp hq with rfl | hq
    · exact hc
    · exact h.2 q (List.mem_filter.mp hq).1
theorem mz_st2 {ls : Array Slot} {nL : Nat} {lv : List (Nat × Bool × Value)} {i : Nat} {v : Value} (h : mz_L ls nL lv) (hi : i + 1 < nL) (hc : v.category = 2) : ∃ ls', storeLocals ls i v = some ls' ∧ mz_L ls' nL ((i, true, v) :: lv.filter (fun q => !(q.1 == i) && (!(q.1 == i + 1) && !(q.1 + 1 == i && q.2.1)))) := by
  obtain ⟨ls', e, h1, h2, h3⟩ := lv_store2 (v := v) h.1 hi hc
  refine ⟨ls', e, ⟨h1, h2, fun q hq => ?_⟩, fun q hq => ?_⟩
  · obtain ⟨x, hx, rfl⟩ := List.mem_map.mp hq
    rcases List.mem_cons.mp hx with rfl | hx
    · exact h3 _ List.mem_cons_self
    · obtain ⟨hx1, hx2⟩ := List.mem_filter.mp hx
      refine h3 _ (List.mem_cons_of_mem _ (List.mem_filter.mpr ⟨List.mem_map.mpr ⟨x, hx1, rfl⟩, ?_⟩))
      have hcx := h.2 x hx1
      simp only [Bool.and_eq_true, Bool.not_eq_true'] at hx2 ⊢
      refine ⟨hx2.1, hx2.2.1, ?_⟩
      rw [hcx]
      cases hb : x.2.1 <;> simp_all [mz_cat]
  · rcases List.mem_cons.mp hq with rfl | hq
    · exact hc
    · exact h.2 q (List.mem_filter.mp hq).1
def mz_args : Nat → List (Bool × Value) → List (Nat × Bool × Value)
  | _, [] => []
  | i, (b, v) :: as => (i, b, v) :: mz_args (i + mz_cat b) as
def mz_wid : List (Bool × Value) → Nat
  | [] => 0
  | (b, _) :: as => mz_cat b + mz_wid as
theorem mz_lvargs : ∀ (as : List (Bool × Value)) (i : Nat), (∀ q ∈ as, q.2.category = mz_cat q.1) → lv_args i (as.map (·.2)) = (mz_args i as).map fun q => (q.1, q.2.2)
  | [], i, _ => rfl
  | (b, v) :: as, i, h => by
    have h1 : v.category = mz_cat b := h (b, v) List.mem_cons_self
    have h2 := mz_lvargs as (i + mz_cat b) (fun q hq => h q (List.mem_cons_of_mem _ hq))
    have e : (if mz_cat b = 2 then i + 2 else i + 1) = i + mz_cat b := by cases b <;> rfl
    simp only [List.map_cons, lv_args, mz_args, h1, e, h2]
theorem mz_lgsl : ∀ (as : List (Bool × Value)), (∀ q ∈ as, q.2.category = mz_cat q.1) → (lg_sl (as.map (·.2))).length = mz_wid as
  | [], _ => rfl
  | (b, v) :: as, h => by
    have h1 : v.category = mz_cat b := h (b, v) List.mem_cons_self
    have h2 := mz_lgsl as (fun q hq => h q (List.mem_cons_of_mem _ hq))
    unfold lg_sl at h2 ⊢
    simp only [List.map_cons, List.flatMap_cons, List.length_append, h2, mz_wid, h1]
    cases b <;> simp [mz_cat]
theorem mz_argcat : ∀ (as : List (Bool × Value)) (i : Nat), (∀ q ∈ as, q.2.category = mz_cat q.1) → ∀ q ∈ mz_args i as, q.2.2.category = mz_cat q.2.1
  | [], _, _ => fun q hq => absurd hq List.not_mem_nil
  | (b, v) :: as, i, h => by
    intro q hq
    rcases List.mem_cons.mp hq with rfl | hq
    · exact h (b, v) List.mem_cons_self
    · exact mz_argcat as _ (fun q hq => h q (List.mem_cons_of_mem _ hq)) q hq
theorem mz_entry (as : List (Bool × Value)) (n : Nat) (hc : ∀ q ∈ as, q.2.category = mz_cat q.1) (h : mz_wid as ≤ n) (m : MethodId) : ∃ ls, entryFrame m (as.map (·.2)).toArray n = F0 m 0 ls [] ∧ mz_L ls n (mz_args 0 as) := by
  have hl := lv_entry (as.map (·.2)) (n := n) (by rw [mz_lgsl as hc]; exact h)
  refine ⟨_, lg_entry_eq m (as.map (·.2)) n, ?_, mz_argcat as 0 hc⟩
  rw [← mz_lvargs as 0 hc]
  exact hl
theorem mz_rest (rest : List Value) (h : rest.length ≤ 4) : (rest.map fun v => v.category).sum ≤ 8 := by
  have key : ∀ l : List Value, (l.map fun v => v.category).sum ≤ 2 * l.length := by
    intro l
    induction l with
    | nil => simp
    | cons a l ih =>
      rcases lv_cat a with h | h <;> simp only [List.map_cons, List.sum_cons, List.length_cons, h] <;> omega
  have := key rest
  omega
/-- where a method stands: X, and what its end needs -/
def mz_Y (p : Program) (g : mz_G) (own : String) (cc : ByteArray) (nL : Nat) (ret : Option FieldType) (nm : String) (A : Nat → Prop) (s : State) (m : MethodId) (args : Array Value) (meth : Method) (c : Code) : Prop :=
  mz_X p g own cc nL A s m args c ∧ meth.sig.returnType = ret ∧ meth.locks = false ∧ meth.name = nm
def mz_Go (l : Launch) (g : mz_G) (p : Program) (e : Env) (s : State) (m : MethodId) (args : Array Value) (below : List Frame) (meth : Method) (c : Code) (fr lo DC DS : Nat) (h0 : mz_H) (rv : Option Value) (hf : mz_H) (nL pc : Nat) (lv : List (Nat × Bool × Value)) (st : List Value) (h : mz_H) (dc ds : Nat) : Prop :=
  ∀ (H : Heap) (locs : List Loc) (cells slots : Nat) (ls : Array Slot), mz_R g (mz_AF h0) h H → va_S (mz_AF h0) s.heap H locs → mz_L ls nL lv → cells + dc = DC → slots + ds = DS →
    W p l e ({ frames := fr, cells := DC, slots := DS, locals := lo }) s m args below meth c H locs cells slots (MQ below (mz_Q g h0 rv hf) args s DC DS (mz_AF h0)) (F0 m pc ls st)
theorem mz_ofW {l : Launch} {y : MethodName} {ws ws' : List Cond} {rm : Room} {Pc : Array Value → State → Prop} {Qc : Array Value → State → Outcome → State → Prop} {mc ms : Nat} {free : Addr → Prop} {cc : ByteArray} {maxL : Nat} {ret : Option FieldType}
    (hy : plainFor y = true) (hw : ws = Cond.code y cc maxL ret :: ws')
    (body : ∀ p e s m args below meth c s₁, BodyLoose p l y (headSpec ws rm) cc maxL ret e s m args below meth c s₁ → c.maxLocals = maxL → Pc args s →
      W p l e (headSpec ws rm).room s m args below meth c s.heap [] 0 0 (MQ below Qc args s mc ms free) (entryFrame m args maxL)) : Met l y ws rm Pc Qc mc ms free := by
  refine MetFree.of_bodySF (code := cc) (maxLocals := maxL) (ret := ret) hy ?_ ?_
  · intro args s m h hn
    obtain ⟨meth, c, h1, h2, h3, h4, h5, h6, -, -⟩ := Cond.code_spec hn (atoms_spec (ws := ws) h _ (by rw [hw]; exact List.mem_cons_self))
    exact ⟨meth, c, h1, h2, h3, h4, h5, h6⟩
  · intro p e s m args below meth c s₁ B hml hP _
    have hh0 : s₁.heap = s.heap := by rw [B.state]; rfl
    obtain ⟨t, a1, o, b1, b2, b3⟩ := body p e s m args below meth c s₁ B hml hP s₁ hh0 (Stand.of_body B)
    exact ⟨t, o, a1, b1, b2, ⟨b3.1, b3.2⟩⟩
theorem mz_met {l : Launch} {g : mz_G} {y : MethodName} {cc : ByteArray} {maxL : Nat} {ret : Option FieldType} {fr lo DC DS : Nat} {as : List (Bool × Value)} {h hf : mz_H} {rv : Option Value} (hy : plainFor y = true) (hc : ∀ q ∈ as, q.2.category = mz_cat q.1) (hw : mz_wid as ≤ maxL)
    (body : ∀ (p : Program) (e : Env) (s : State) (m : MethodId) (args : Array Value) (below : List Frame) (meth : Method) (c : Code), mz_Y p g y.cls cc maxL ret y.name (mz_AF h) s m args meth c → mz_Go l g p e s m args below meth c fr lo DC DS h rv hf maxL 0 (mz_args 0 as) [] h DC DS) :
    mz_C l g y cc maxL ret fr lo (as.map (·.2)) h rv hf DC DS := by
  refine mz_ofW (cc := cc) (maxL := maxL) (ret := ret) hy rfl ?_
  intro p e s m args below meth c s₁ B hml hv
  obtain ⟨rfl, hR, hK, hZ⟩ := hv
  have hts := atoms_spec (ws := Cond.code y cc maxL ret :: mz_tbl) B.pre
  have hown : s.vm.findClass y.cls = some m.cls := findClass_of_methodNamed B.named
  have hnm : meth.name = y.name := (name_of_methodNamed B.named B.method).1
  obtain ⟨ls, e1, e2⟩ := mz_entry as maxL hc hw m
  rw [e1]
  exact body p e s m _ below meth c ⟨⟨B.exec, B.bytes, hml, hown, fun w hw => hts w (List.mem_cons_of_mem _ hw), hK, hZ, fun q hq => Or.inr (by rw [← hR.1]; exact hq)⟩, B.returns, B.notSynchronized, hnm⟩ s.heap [] 0 0 ls hR va_S.rf e2 (by omega) (by omega)
def mz_MB (own : String) (index : Nat) (y : MethodName) (cc : ByteArray) (maxL : Nat) (ret : Option FieldType) (n : Nat) : Prop :=
  Cond.methodLink own index y ∈ mz_tbl ∧ Cond.initialized y.cls ∈ mz_tbl ∧ Cond.code y cc maxL ret ∈ mz_tbl ∧ y.cls ≠ "java/lang/invoke/MethodHandle" ∧ y.cls ≠ "java/lang/invoke/VarHandle" ∧ (parseMethodDescriptor y.desc).map (fun d => d.parameters.length) = some n
def mz_MN (y : MethodName) (cc : ByteArray) (maxL : Nat) (ret : Option FieldType) (n : Nat) : Prop :=
  Cond.initialized y.cls ∈ mz_tbl ∧ Cond.code y cc maxL ret ∈ mz_tbl ∧ y.cls ≠ "java/lang/invoke/MethodHandle" ∧ y.cls ≠ "java/lang/invoke/VarHandle" ∧ (parseMethodDescriptor y.desc).map (fun d => d.parameters.length) = some n
theorem mz_goodin {y : MethodName} {cc : ByteArray} {maxL : Nat} {ret : Option FieldType} (h : Cond.code y cc maxL ret ∈ mz_tbl) : GoodIn mz_tbl (Cond.code y cc maxL ret :: mz_tbl) := by
  intro w hw
  refine ⟨?_, mz_good y cc maxL ret w hw⟩
  rcases List.mem_cons.mp hw with rfl | hw
  · exact h
  · exact hw
theorem mz_blind {As : List Value} {g : mz_G} {h : mz_H} : FrameBlind (va_Pc As (mz_B g h)) := fun _ _ _ _ q => ⟨q.1, q.2.1, mz_K.same rfl q.2.2.1, mz_Z.moved (Vm.Alike.refl _) q.2.2.2⟩
section MZC
variable {p : Program} {l : Launch} {e : Env} {R : Room} {s : State} {m : MethodId} {args : Array Value} {below : List Frame} {meth : Method} {c : Code} {H : Heap} {locs : List Loc} {cells slots : Nat} {Q : State → Prop}
variable {cc : ByteArray} {pc nL : Nat} {ls : Array Slot} {rest : List Value} {g : mz_G} {A : Nat → Prop} {h : mz_H} {own : String}
theorem mz_pre (X : mz_X p g own cc nL A s m args c) (hH : mz_R g A h H) (hS : va_S A s.heap H locs) (As : List Value) : PreS s H (va_Pc As (mz_B g h)) As := by
  obtain ⟨hx, hb, hml, hown, hts, hK, hZ, hA⟩ := X
  refine ⟨mz_blind, fun U hU hW => ⟨rfl, ?_, hK.moved hW, ?_⟩⟩
  · rw [hU]; exact hH.self
  · rw [hU]; exact mz_Z.call hZ hS hH hA hW.alike
theorem mz_run {st0 : List Value} {k n : Nat} {rv : Option Value} {h' : mz_H} {a : Array Value} (X : mz_X p g own cc nL A s m args c) (hH : mz_R g A h H) (hS : va_S A s.heap H locs) (hr : va_Run p l e R s m args below meth c H locs cells slots k n (F0 m pc ls st0) rest (mz_Q g h rv h' a) (mz_AF h))
    (kk : ∀ (H1 : Heap) (locs1 : List Loc), mz_R g A h' H1 → va_S A s.heap H1 locs1 → W p l e R s m args below meth c H1 locs1 (cells + k) (slots + n) Q (F0 m (pc + 3) ls (rv.toList ++ rest))) : W p l e R s m args below meth c H locs cells slots Q (F0 m pc ls st0) := by
  obtain ⟨hx, hb, hml, hown, hts, hK, hZ, hA⟩ := X
  have hn : ∀ q, mz_AF h q → A q := fun q hq => by
    rcases hq with ⟨e, he⟩ | hq
    · exact (hH.2 q e he).2
    · exact hA q (Nat.le_trans hS.1 (by rw [hH.1]; exact hq))
  intro T hT X
  obtain ⟨v, st₀, t, T', L, h0, X', hL, e1, e2, ⟨hv, hRR, hz, hk⟩, st⟩ := hr T hT X
  cases hv
  rw [h0] at hz hk
  obtain ⟨t2, a1, b1⟩ := kk T'.heap (locs ++ L) (by rw [e1]; exact hRR.weak hn)
    ⟨Nat.le_trans hS.1 (by rw [e1]; exact hz), fun q h1 h2 => by rw [e1, hk q (Nat.lt_of_lt_of_le h1 hS.1) (fun z => h2 (hn q z))]; exact hS.2.1 q h1 h2, fun q hq => by
      rcases List.mem_append.mp hq with h | h
      · exact hS.2.2 q h
      · exact hn _ (hL q h)⟩ T' rfl X'
  exact ⟨t2, st t2 a1, b1⟩
theorem mz_runS {index : Nat} {y : MethodName} {cc' : ByteArray} {maxL' n' fr lo k n : Nat} {ret' : Option FieldType} {rv : Option Value} {h' : mz_H} (X : mz_X p g own cc nL A s m args c) (hH : mz_R g A h H) (hS : va_S A s.heap H locs) (hls : ls.size = nL) (As : List Value) (hM : mz_C l g y cc' maxL' ret' fr lo As h rv h' k n) (hB : mz_MB own index y cc' maxL' ret' n') (hst : Cond.static y ∈ mz_tbl) (hlen : As.length = n') (hrest : rest.length ≤ 4) (hR : fr + 1 ≤ R.frames ∧ 8 + (maxL' + 11) + lo ≤ R.locals) (hf : cells + k ≤ R.cells ∧ slots + n ≤ R.slots) (hdg : decode cc pc = .ok (.invokestatic index, 3)) {st0 : List Value} (hst0 : st0 = As.reverse ++ rest) :
    va_Run p l e R s m args below meth c H locs cells slots k n (F0 m pc ls st0) rest (mz_Q g h rv h' As.toArray) (mz_AF h) := by
  have hpre := mz_pre X hH hS As
  obtain ⟨hx, hb, hml, hown, hts, hK, hZ, hA⟩ := X
  obtain ⟨b1, b2, b3, b4, b5, b6⟩ := hB
  subst hst0
  exact va_runS (Ts := mz_tbl) (As := As) (rest := rest) ⟨hx, hb, hml, hown, hts⟩ hM ⟨callB_of n' hts (mz_goodin b3) rfl rfl rfl (hts _ b2) (hts _ b1) ⟨b4, b5, b6⟩ hR, hts _ hst⟩ hpre rfl hlen hls rfl (by simpa using mz_rest rest hrest) hdg hf
theorem mz_runSN {index : Nat} {y : MethodName} {cc' : ByteArray} {maxL' n' fr lo k n : Nat} {ret' : Option FieldType} {rv : Option Value} {h' : mz_H} {host : String} (X : mz_X p g own cc nL A s m args c) (hH : mz_R g A h H) (hS : va_S A s.heap H locs) (hls : ls.size = nL) (As : List Value) (hM : mz_C l g y cc' maxL' ret' fr lo As h rv h' k n) (hB : mz_MN y cc' maxL' ret' n') (hN : va_Nw (.methodLinkNest own index y host) s) (hst : Cond.static y ∈ mz_tbl) (hlen : As.length = n') (hrest : rest.length ≤ 4) (hR : fr + 1 ≤ R.frames ∧ 8 + (maxL' + 11) + lo ≤ R.locals) (hf : cells + k ≤ R.cells ∧ slots + n ≤ R.slots) (hdg : decode cc pc = .ok (.invokestatic index, 3)) {st0 : List Value} (hst0 : st0 = As.reverse ++ rest) :
    va_Run p l e R s m args below meth c H locs cells slots k n (F0 m pc ls st0) rest (mz_Q g h rv h' As.toArray) (mz_AF h) := by
  have hpre := mz_pre X hH hS As
  obtain ⟨hx, hb, hml, hown, hts, hK, hZ, hA⟩ := X
  obtain ⟨b2, b3, b4, b5, b6⟩ := hB
  subst hst0
  exact va_runSN (Ts := mz_tbl) (As := As) (rest := rest) ⟨hx, hb, hml, hown, hts⟩ hM ⟨va_cnB n' hts (mz_goodin b3) rfl rfl rfl hN (hts _ b2) ⟨b4, b5, b6⟩ hR, hts _ hst, trivial⟩ hpre rfl hlen hls rfl (by simpa using mz_rest rest hrest) hdg hf
theorem mz_runI {index : Nat} {y : MethodName} {cc' : ByteArray} {maxL' n' fr lo k n b : Nat} {rv : Option Value} {h' : mz_H} (X : mz_X p g own cc nL A s m args c) (hH : mz_R g A h H) (hS : va_S A s.heap H locs) (hls : ls.size = nL) (As : List Value) (hM : mz_C l g y cc' maxL' none fr lo (.ref b :: As) h rv h' k n) (hB : mz_MB own index y cc' maxL' none n') (hin : Cond.instanceMethod y ∈ mz_tbl) (hy1 : y.name = "<init>") (hlen : As.length = n') (hrest : rest.length ≤ 4) (hR : fr + 1 ≤ R.frames ∧ 8 + (maxL' + 11) + lo ≤ R.locals) (hf : cells + k ≤ R.cells ∧ slots + n ≤ R.slots) (hdg : decode cc pc = .ok (.invokespecial index, 3)) {st0 : List Value} (hst0 : st0 = As.reverse ++ .ref b :: rest) :
    va_Run p l e R s m args below meth c H locs cells slots k n (F0 m pc ls st0) rest (mz_Q g h rv h' (Value.ref b :: As).toArray) (mz_AF h) := by
  have hpre := mz_pre X hH hS (.ref b :: As)
  obtain ⟨hx, hb, hml, hown, hts, hK, hZ, hA⟩ := X
  obtain ⟨b1, b2, b3, b4, b5, b6⟩ := hB
  subst hst0
  exact va_runI (Ts := mz_tbl) (As := As) (rest := rest) ⟨hx, hb, hml, hown, hts⟩ hM ⟨callB_of n' hts (mz_goodin b3) rfl rfl rfl (hts _ b2) (hts _ b1) ⟨b4, b5, b6⟩ hR, hy1, hts _ hin⟩ hpre rfl hlen hls rfl (by simpa using mz_rest rest hrest) hdg hf
theorem mz_runIN {index : Nat} {y : MethodName} {cc' : ByteArray} {maxL' n' fr lo k n b : Nat} {rv : Option Value} {h' : mz_H} {host : String} (X : mz_X p g own cc nL A s m args c) (hH : mz_R g A h H) (hS : va_S A s.heap H locs) (hls : ls.size = nL) (As : List Value) (hM : mz_C l g y cc' maxL' none fr lo (.ref b :: As) h rv h' k n) (hB : mz_MN y cc' maxL' none n') (hN : va_Nw (.methodLinkNest own index y host) s) (hin : Cond.instanceMethod y ∈ mz_tbl) (hy1 : y.name = "<init>") (hlen : As.length = n') (hrest : rest.length ≤ 4) (hR : fr + 1 ≤ R.frames ∧ 8 + (maxL' + 11) + lo ≤ R.locals) (hf : cells + k ≤ R.cells ∧ slots + n ≤ R.slots) (hdg : decode cc pc = .ok (.invokespecial index, 3)) {st0 : List Value} (hst0 : st0 = As.reverse ++ .ref b :: rest) :
    va_Run p l e R s m args below meth c H locs cells slots k n (F0 m pc ls st0) rest (mz_Q g h rv h' (Value.ref b :: As).toArray) (mz_AF h) := by
  have hpre := mz_pre X hH hS (.ref b :: As)
  obtain ⟨hx, hb, hml, hown, hts, hK, hZ, hA⟩ := X
  obtain ⟨b2, b3, b4, b5, b6⟩ := hB
  subst hst0
  exact va_runIN (Ts := mz_tbl) (As := As) (rest := rest) ⟨hx, hb, hml, hown, hts⟩ hM ⟨va_cnB n' hts (mz_goodin b3) rfl rfl rfl hN (hts _ b2) ⟨b4, b5, b6⟩ hR, hy1, hts _ hin⟩ hpre rfl hlen hls rfl (by simpa using mz_rest rest hrest) hdg hf
theorem mz_runV {index ci : Nat} {y : MethodName} {cc' : ByteArray} {maxL' n' fr lo k n b : Nat} {ret' : Option FieldType} {rv : Option Value} {h' : mz_H} {C : String} {T : u_T} {N : Nat} (X : mz_X p g own cc nL A s m args c) (hH : mz_R g A h H) (hS : va_S A s.heap H locs) (hls : ls.size = nL) (As : List Value) (hM : mz_C l g y cc' maxL' ret' fr lo (.ref b :: As) h rv h' k n) (hB : mz_MB own index y cc' maxL' ret' n') (hcl : vwCl[ci]? = some (C, T, N)) (hin : Cond.instanceMethod y ∈ mz_tbl ∧ Cond.selects C y y ∈ mz_tbl) (hrc : mz_is h (some b) ci = true) (hlen : As.length = n') (hrest : rest.length ≤ 4) (hR : fr + 1 ≤ R.frames ∧ 8 + (maxL' + 11) + lo ≤ R.locals) (hf : cells + k ≤ R.cells ∧ slots + n ≤ R.slots) (hdg : decode cc pc = .ok (.invokevirtual index, 3)) {st0 : List Value} (hst0 : st0 = As.reverse ++ .ref b :: rest) :
    va_Run p l e R s m args below meth c H locs cells slots k n (F0 m pc ls st0) rest (mz_Q g h rv h' (Value.ref b :: As).toArray) (mz_AF h) := by
  have hpre := mz_pre X hH hS (.ref b :: As)
  obtain ⟨hx, hb, hml, hown, hts, hK, hZ, hA⟩ := X
  obtain ⟨b1, b2, b3, b4, b5, b6⟩ := hB
  subst hst0
  obtain ⟨b0, fs, e0, hc⟩ := mz_is_some hrc
  cases e0
  obtain ⟨r, h1, cell, q1, q2, q3, q4⟩ := (hH.2 b _ hc).1
  have hKn := hK.1.1 ci _ hcl
  exact va_runV (C := C) (Ts := mz_tbl) (As := As) (rest := rest) ⟨hx, hb, hml, hown, hts⟩ hM ⟨callB_of n' hts (mz_goodin b3) rfl rfl rfl (hts _ b2) (hts _ b1) ⟨b4, b5, b6⟩ hR, hts _ hin.1, hts _ hin.2⟩ ⟨hpre.1, ⟨cell, q1, by rw [q3]; rfl, by rw [q2]; exact hKn.2.1⟩, hpre.2⟩ rfl hlen hls rfl (by simpa using mz_rest rest hrest) hdg hf
end MZC

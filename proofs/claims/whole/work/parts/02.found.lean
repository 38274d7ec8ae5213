/-! FOUNDATION: an abstract heap (a map from addresses to cells, and its size), what a machine heap must hold for it, and rows over it. -/
abbrev mz_E : Type := (Nat × vp_A) ⊕ (Nat × List Value)
abbrev mz_H : Type := (Nat → Option mz_E) × Nat
abbrev mz_Res (α : Type) : Type := Option (α × mz_H × Nat × Nat)
abbrev mz_G : Type := va_G × (Nat → ClassId) × Nat
def mz_op {α β : Type} (o : Option α) (k : α → Option β) : Option β := match o with
  | none => none
  | some v => k v
def mz_al {α : Type} (c n : Nat) (r : mz_Res α) : mz_Res α := match r with
  | none => none
  | some (v, h, k, m) => some (v, h, k + c, m + n)
def mz_call {α β : Type} (r : mz_Res α) (k : α → mz_H → mz_Res β) : mz_Res β := match r with
  | none => none
  | some (v, h, c, n) => mz_al c n (k v h)
def mz_chk {β : Type} (b : Bool) (k : Option β) : Option β := match b with
  | true => k
  | false => none
def mz_ret {α : Type} (v : α) (h : mz_H) : mz_Res α := some (v, h, 0, 0)
theorem mz_op_some {α β : Type} {o : Option α} {k : α → Option β} {z : β} (h : mz_op o k = some z) : ∃ v, o = some v ∧ k v = some z := by
  cases o with
  | none => cases h
  | some v => exact ⟨v, rfl, h⟩
theorem mz_al_some {α : Type} {c n : Nat} {r : mz_Res α} {v : α} {h : mz_H} {k m : Nat} (e : mz_al c n r = some (v, h, k, m)) : ∃ k' m', r = some (v, h, k', m') ∧ k = k' + c ∧ m = m' + n := by
  cases r with
  | none => cases e
  | some z =>
    obtain ⟨v', h', k', m'⟩ := z
    simp only [mz_al, Option.some.injEq, Prod.mk.injEq] at e
    obtain ⟨rfl, rfl, rfl, rfl⟩ := e
    exact ⟨k', m', rfl, rfl, rfl⟩
theorem mz_call_some {α β : Type} {r : mz_Res α} {k : α → mz_H → mz_Res β} {v : β} {h : mz_H} {c n : Nat} (e : mz_call r k = some (v, h, c, n)) : ∃ v1 h1 c1 n1 c2 n2, r = some (v1, h1, c1, n1) ∧ k v1 h1 = some (v, h, c2, n2) ∧ c = c2 + c1 ∧ n = n2 + n1 := by
  cases r with
  | none => cases e
  | some z =>
    obtain ⟨v', h', k', m'⟩ := z
    obtain ⟨c2, n2, e1, e2, e3⟩ := mz_al_some (show mz_al k' m' (k v' h') = some (v, h, c, n) from e)
    exact ⟨v', h', k', m', c2, n2, rfl, e1, e2, e3⟩
theorem mz_chk_some {β : Type} {b : Bool} {k : Option β} {z : β} (h : mz_chk b k = some z) : b = true ∧ k = some z := by
  cases b with
  | false => cases h
  | true => exact ⟨rfl, h⟩
def mz_up (h : mz_H) (a : Nat) (e : mz_E) : mz_H := (fun q => if q = a then some e else h.1 q, h.2)
def mz_nw (h : mz_H) (e : mz_E) : mz_H := (fun q => if q = h.2 then some e else h.1 q, h.2 + 1)
def mz_cv (dA : Nat → ClassId) : mz_E → va_E
  | .inl (t, x) => .inl (dA t, x)
  | .inr o => .inr o
/-- the kinds of arrays: 0 ints, 1 longs, 2 booleans, 10 + c: of references to objects of class c of vwCl -/
def mz_ty (t : Nat) : FieldType := match t with
  | 0 => .int
  | 1 => .long
  | 2 => .boolean
  | 11 => .object "MemberScanner$Entry"
  | 12 => .object "MemberScanner$Member"
  | 13 => .object "MemberScanner$Roster"
  | 14 => .object "MemberScanner$Row"
  | 15 => .object "MemberScanner$Slot"
  | 17 => .object "MemberScanner$Thing"
  | _ => .object "MemberScanner$Type"
def mz_tags : List Nat := [0, 1, 2, 11, 12, 13, 14, 15, 17, 18]
def mz_R (g : mz_G) (A : Nat → Prop) (h : mz_H) (H : Heap) : Prop := H.size = h.2 ∧ ∀ (a : Nat) (e : mz_E), h.1 a = some e → va_at g.1 vwCl (a, mz_cv g.2.1 e) H ∧ A a
def mz_K (g : mz_G) (U : State) : Prop := va_K g.1 vwCl [] U ∧ (∀ t ∈ mz_tags, ArrOfT U (g.2.1 t) (mz_ty t) ∧ va_RA U (g.2.1 t) (mz_ty t)) ∧
  (∀ C ∈ ["MemberScanner$Entry", "MemberScanner$Member", "MemberScanner$Roster", "MemberScanner$Row", "MemberScanner$Slot", "MemberScanner$Thing", "MemberScanner$Type"], va_AO C U) ∧
  va_Nw (.methodLinkNest "MemberScanner" 9 ⟨"MemberScanner$Types", "<init>", "()V"⟩ "MemberScanner") U ∧ va_Nw (.methodLinkNest "MemberScanner" 34 ⟨"MemberScanner$Column", "<init>", "()V"⟩ "MemberScanner") U ∧ va_Nw (.methodLinkNest "MemberScanner$Table" 99 ⟨"MemberScanner", "isName", "(I)Z"⟩ "MemberScanner") U ∧ va_Nw (.castable "[J" "java/lang/Cloneable") U
def mz_wt (j : Nat) : Int32 := match j with
  | 0 => 123
  | 1 => 122
  | 2 => 124
  | 3 => 120
  | 4 => 112
  | 5 => 96
  | 6 => 64
  | 7 => 128
  | _ => 0
def mz_Z (g : mz_G) (A : Nat → Prop) (U : State) (H : Heap) : Prop := va_Z "MemberScanner$Numbers" "WIDENED_TO" "[I" (.ref g.2.2) A U H ∧ va_T .int g.2.2 9 (fun j => .int (mz_wt j)) A U H
def mz_AF (h : mz_H) : Nat → Prop := fun q => (∃ e, h.1 q = some e) ∨ h.2 ≤ q
def mz_tbl : List Cond := lw_tbl.filter goodWord
theorem mz_good (y : MethodName) (cc : ByteArray) (n : Nat) (r : Option FieldType) : ∀ w ∈ (Cond.code y cc n r :: mz_tbl), (w.onTables && w.keeps) = true ∨ ∃ ty, w = .arrayClass ty := by
  intro w hw
  rcases List.mem_cons.mp hw with rfl | h
  · exact Or.inl rfl
  · exact good_of_word (List.mem_filter.mp h).2
def mz_B (g : mz_G) (h : mz_H) (U : State) : Prop := mz_R g (mz_AF h) h U.heap ∧ mz_K g U ∧ mz_Z g (mz_AF h) U U.heap
def mz_Q (g : mz_G) (h : mz_H) (rv : Option Value) (h' : mz_H) : Array Value → State → Outcome → State → Prop := fun _ st oc t => oc = .returned rv ∧ mz_R g (mz_AF h) h' t.heap ∧ va_F (mz_AF h) st t
def mz_C (l : Launch) (g : mz_G) (y : MethodName) (cc : ByteArray) (maxL : Nat) (ret : Option FieldType) (fr lo : Nat) (args : List Value) (h : mz_H) (rv : Option Value) (h' : mz_H) (k n : Nat) : Prop :=
  Met l y (Cond.code y cc maxL ret :: mz_tbl) ({ frames := fr, cells := k, slots := n, locals := lo }) (va_Pc args (mz_B g h)) (mz_Q g h rv h') k n (mz_AF h)
theorem mz_K.moved {g : mz_G} {u U : State} (hW : u.WarmedH U.vm) (h : mz_K g u) : mz_K g U := by
  obtain ⟨h1, h2, h3, h4, h5, h6, h7⟩ := h
  have hvm := hW.alike
  exact ⟨va_K.moved hvm h1, fun t ht => ⟨arrOfT_moved hvm (h2 t ht).1, (h2 t ht).2.moved hvm⟩, fun C hC => (h3 C hC).moved hvm, va_Nw.warmM hW h4, va_Nw.warmM hW h5, va_Nw.warmM hW h6, va_Nw.warmC hW h7⟩
theorem mz_K.same {g : mz_G} {u U : State} (hvm : u.vm = U.vm) (h : mz_K g u) : mz_K g U := by
  obtain ⟨h1, h2, h3, h4, h5, h6, h7⟩ := h
  have ha : u.vm.Alike U.vm := by rw [hvm]; exact Vm.Alike.refl _
  exact ⟨va_K.moved ha h1, fun t ht => ⟨arrOfT_moved ha (h2 t ht).1, (h2 t ht).2.moved ha⟩, fun C hC => (h3 C hC).moved ha, va_Nw.same rfl hvm h4, va_Nw.same rfl hvm h5, va_Nw.same rfl hvm h6, va_Nw.same rfl hvm h7⟩
theorem mz_Z.moved {g : mz_G} {A : Nat → Prop} {u U : State} {H : Heap} (hvm : u.vm.Alike U.vm) (h : mz_Z g A u H) : mz_Z g A U H := ⟨va_Z.moved hvm h.1, va_T.moved hvm h.2⟩
theorem mz_R.weak {g : mz_G} {A B : Nat → Prop} {h : mz_H} {H : Heap} (hR : mz_R g A h H) (hAB : ∀ q, A q → B q) : mz_R g B h H := ⟨hR.1, fun a e he => ⟨(hR.2 a e he).1, hAB a (hR.2 a e he).2⟩⟩
theorem mz_R.self {g : mz_G} {A : Nat → Prop} {h : mz_H} {H : Heap} (hR : mz_R g A h H) : mz_R g (mz_AF h) h H := ⟨hR.1, fun a e he => ⟨(hR.2 a e he).1, Or.inl ⟨e, he⟩⟩⟩
theorem mz_R.up {g : mz_G} {A : Nat → Prop} {h : mz_H} {H H1 : Heap} {a : Nat} {e0 e : mz_E} (hR : mz_R g A h H) (h0 : h.1 a = some e0) (he : va_at g.1 vwCl (a, mz_cv g.2.1 e) H1) (hz : H1.size = H.size) (ho : ∀ q : Nat, q ≠ a → H1[q]? = H[q]?) : mz_R g A (mz_up h a e) H1 := by
  refine ⟨hz.trans hR.1, fun q x hq => ?_⟩
  by_cases hqa : q = a
  · subst hqa
    simp only [mz_up, if_true, Option.some.injEq] at hq
    subst hq
    exact ⟨he, (hR.2 q e0 h0).2⟩
  · simp only [mz_up, if_neg hqa] at hq
    exact ⟨(hR.2 q x hq).1.kept (ho q hqa), (hR.2 q x hq).2⟩
theorem mz_R.nw {g : mz_G} {A : Nat → Prop} {h : mz_H} {H H1 : Heap} {e : mz_E} (hR : mz_R g A h H) (hA : A h.2) (he : va_at g.1 vwCl (h.2, mz_cv g.2.1 e) H1) (hz : H1.size = H.size + 1) (ho : ∀ q : Nat, q < H.size → H1[q]? = H[q]?) : mz_R g A (mz_nw h e) H1 := by
  refine ⟨by rw [hz, hR.1]; rfl, fun q x hq => ?_⟩
  by_cases hqa : q = h.2
  · subst hqa
    simp only [mz_nw, if_true, Option.some.injEq] at hq
    subst hq
    exact ⟨he, hA⟩
  · simp only [mz_nw, if_neg hqa] at hq
    have h1 := hR.2 q x hq
    exact ⟨h1.1.kept (ho q h1.1.lt), h1.2⟩
theorem mz_S.nw {A : Nat → Prop} {H0 H H1 : Heap} {locs : List Loc} (h : va_S A H0 H locs) (z : H1.size = H.size + 1) (ho : ∀ q : Nat, q < H.size → H1[q]? = H[q]?) : va_S A H0 H1 locs := ⟨by rw [z]; exact Nat.le_succ_of_le h.1, fun q h1 h2 => (ho q (Nat.lt_of_lt_of_le h1 h.1)).trans (h.2.1 q h1 h2), h.2.2⟩
/-- a call's frame: what was fixed at the caller's entry -/
def mz_X (p : Program) (g : mz_G) (own : String) (cc : ByteArray) (nL : Nat) (A : Nat → Prop) (s : State) (m : MethodId) (args : Array Value) (c : Code) : Prop :=
  p.tables.exec = Jvm.exec ∧ c.code = cc ∧ c.maxLocals = nL ∧ s.vm.findClass own = some m.cls ∧ (∀ w ∈ mz_tbl, w.before args s = true) ∧ mz_K g s ∧ mz_Z g A s s.heap ∧ ∀ q, s.heap.size ≤ q → A q
theorem mz_Z.call {g : mz_G} {A : Nat → Prop} {h : mz_H} {s U : State} {H : Heap} {locs : List Loc} (hZ : mz_Z g A s s.heap) (hS : va_S A s.heap H locs) (hR : mz_R g A h H) (hA : ∀ q, s.heap.size ≤ q → A q) (hvm : s.vm.Alike U.vm) : mz_Z g (mz_AF h) U H := by
  have hn : ∀ q, mz_AF h q → A q := fun q hq => by
    rcases hq with ⟨e, he⟩ | hq
    · exact (hR.2 q e he).2
    · exact hA q (Nat.le_trans hS.1 (by rw [hR.1]; exact hq))
  obtain ⟨⟨cf, kf, fi, f, a, cell, z1, z2, z3, z4, z5, z6, z7, z8⟩, ⟨cell2, t1, t2, t3, t4, t5, t6, t7⟩⟩ := hZ
  have k1 : H[a]? = s.heap[a]? := hS.2.1 a (Array.getElem?_eq_some_iff.mp z5).1 z8
  have k2 : H[g.2.2]? = s.heap[g.2.2]? := hS.2.1 _ (Array.getElem?_eq_some_iff.mp t1).1 t7
  exact mz_Z.moved hvm ⟨⟨cf, kf, fi, f, a, cell, z1, z2, z3, z4, k1.trans z5, z6, z7, fun hq => z8 (hn _ hq)⟩, ⟨cell2, k2.trans t1, t2, t3, t4, t5, t6, fun hq => t7 (hn _ hq)⟩⟩

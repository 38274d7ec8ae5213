/-! branches, locals, returns, JDK's members -/
section MZB
variable {p : Program} {l : Launch} {e : Env} {R : Room} {s : State} {m : MethodId} {args : Array Value} {below : List Frame} {meth : Method} {c : Code} {H : Heap} {locs : List Loc} {cells slots : Nat} {Q : State → Prop}
variable {cc : ByteArray} {pc nL : Nat} {ls : Array Slot} {rest : List Value} {g : mz_G} {A : Nat → Prop} {h : mz_H} {own : String}
theorem mz_if_eq (X : mz_X p g own cc nL A s m args c) {x : Int32} {off : Int} (tgt : Nat) (hdg : decode cc pc = .ok (.ifCond .eq off, 3)) (ht : (pc : Int) + off = (tgt : Int)) {β : Type} {PT PF : Option β} {z : β} (hr : (if x = 0 then PT else PF) = some z)
    (kt : PT = some z → W p l e R s m args below meth c H locs cells slots Q (F0 m tgt ls rest)) (kf : PF = some z → W p l e R s m args below meth c H locs cells slots Q (F0 m (pc + 3) ls rest)) : W p l e R s m args below meth c H locs cells slots Q (F0 m pc ls (.int x :: rest)) :=
  lv_if_eq X.1 X.2.1 hdg ht (fun q => kt (by rw [if_pos q] at hr; exact hr)) (fun q => kf (by rw [if_neg q] at hr; exact hr))
theorem mz_icmp_eq (X : mz_X p g own cc nL A s m args c) {x y : Int32} {off : Int} (tgt : Nat) (hdg : decode cc pc = .ok (.if_icmp .eq off, 3)) (ht : (pc : Int) + off = (tgt : Int)) {β : Type} {PT PF : Option β} {z : β} (hr : (if x = y then PT else PF) = some z)
    (kt : PT = some z → W p l e R s m args below meth c H locs cells slots Q (F0 m tgt ls rest)) (kf : PF = some z → W p l e R s m args below meth c H locs cells slots Q (F0 m (pc + 3) ls rest)) : W p l e R s m args below meth c H locs cells slots Q (F0 m pc ls (.int y :: .int x :: rest)) :=
  lv_icmp_eq X.1 X.2.1 hdg ht (fun q => kt (by rw [if_pos q] at hr; exact hr)) (fun q => kf (by rw [if_neg q] at hr; exact hr))
theorem mz_if_ne (X : mz_X p g own cc nL A s m args c) {x : Int32} {off : Int} (tgt : Nat) (hdg : decode cc pc = .ok (.ifCond .ne off, 3)) (ht : (pc : Int) + off = (tgt : Int)) {β : Type} {PT PF : Option β} {z : β} (hr : (if x = 0 then PF else PT) = some z)
    (kt : PT = some z → W p l e R s m args below meth c H locs cells slots Q (F0 m tgt ls rest)) (kf : PF = some z → W p l e R s m args below meth c H locs cells slots Q (F0 m (pc + 3) ls rest)) : W p l e R s m args below meth c H locs cells slots Q (F0 m pc ls (.int x :: rest)) :=
  lv_if_ne X.1 X.2.1 hdg ht (fun q => kt (by rw [if_neg q] at hr; exact hr)) (fun q => kf (by rw [if_pos q] at hr; exact hr))
theorem mz_icmp_ne (X : mz_X p g own cc nL A s m args c) {x y : Int32} {off : Int} (tgt : Nat) (hdg : decode cc pc = .ok (.if_icmp .ne off, 3)) (ht : (pc : Int) + off = (tgt : Int)) {β : Type} {PT PF : Option β} {z : β} (hr : (if x = y then PF else PT) = some z)
    (kt : PT = some z → W p l e R s m args below meth c H locs cells slots Q (F0 m tgt ls rest)) (kf : PF = some z → W p l e R s m args below meth c H locs cells slots Q (F0 m (pc + 3) ls rest)) : W p l e R s m args below meth c H locs cells slots Q (F0 m pc ls (.int y :: .int x :: rest)) :=
  lv_icmp_ne X.1 X.2.1 hdg ht (fun q => kt (by rw [if_neg q] at hr; exact hr)) (fun q => kf (by rw [if_pos q] at hr; exact hr))
theorem mz_if_lt (X : mz_X p g own cc nL A s m args c) {x : Int32} {off : Int} (tgt : Nat) (hdg : decode cc pc = .ok (.ifCond .lt off, 3)) (ht : (pc : Int) + off = (tgt : Int)) {β : Type} {PT PF : Option β} {z : β} (hr : (if x < 0 then PT else PF) = some z)
    (kt : PT = some z → W p l e R s m args below meth c H locs cells slots Q (F0 m tgt ls rest)) (kf : PF = some z → W p l e R s m args below meth c H locs cells slots Q (F0 m (pc + 3) ls rest)) : W p l e R s m args below meth c H locs cells slots Q (F0 m pc ls (.int x :: rest)) :=
  lv_if_lt X.1 X.2.1 hdg ht (fun q => kt (by rw [if_pos q] at hr; exact hr)) (fun q => kf (by rw [if_neg q] at hr; exact hr))
theorem mz_icmp_lt (X : mz_X p g own cc nL A s m args c) {x y : Int32} {off : Int} (tgt : Nat) (hdg : decode cc pc = .ok (.if_icmp .lt off, 3)) (ht : (pc : Int) + off = (tgt : Int)) {β : Type} {PT PF : Option β} {z : β} (hr : (if x < y then PT else PF) = some z)
    (kt : PT = some z → W p l e R s m args below meth c H locs cells slots Q (F0 m tgt ls rest)) (kf : PF = some z → W p l e R s m args below meth c H locs cells slots Q (F0 m (pc + 3) ls rest)) : W p l e R s m args below meth c H locs cells slots Q (F0 m pc ls (.int y :: .int x :: rest)) :=
  lv_icmp_lt X.1 X.2.1 hdg ht (fun q => kt (by rw [if_pos q] at hr; exact hr)) (fun q => kf (by rw [if_neg q] at hr; exact hr))
theorem mz_if_ge (X : mz_X p g own cc nL A s m args c) {x : Int32} {off : Int} (tgt : Nat) (hdg : decode cc pc = .ok (.ifCond .ge off, 3)) (ht : (pc : Int) + off = (tgt : Int)) {β : Type} {PT PF : Option β} {z : β} (hr : (if 0 ≤ x then PT else PF) = some z)
    (kt : PT = some z → W p l e R s m args below meth c H locs cells slots Q (F0 m tgt ls rest)) (kf : PF = some z → W p l e R s m args below meth c H locs cells slots Q (F0 m (pc + 3) ls rest)) : W p l e R s m args below meth c H locs cells slots Q (F0 m pc ls (.int x :: rest)) :=
  lv_if_ge X.1 X.2.1 hdg ht (fun q => kt (by rw [if_pos q] at hr; exact hr)) (fun q => kf (by rw [if_neg q] at hr; exact hr))
theorem mz_icmp_ge (X : mz_X p g own cc nL A s m args c) {x y : Int32} {off : Int} (tgt : Nat) (hdg : decode cc pc = .ok (.if_icmp .ge off, 3)) (ht : (pc : Int) + off = (tgt : Int)) {β : Type} {PT PF : Option β} {z : β} (hr : (if y ≤ x then PT else PF) = some z)
    (kt : PT = some z → W p l e R s m args below meth c H locs cells slots Q (F0 m tgt ls rest)) (kf : PF = some z → W p l e R s m args below meth c H locs cells slots Q (F0 m (pc + 3) ls rest)) : W p l e R s m args below meth c H locs cells slots Q (F0 m pc ls (.int y :: .int x :: rest)) :=
  lv_icmp_ge X.1 X.2.1 hdg ht (fun q => kt (by rw [if_pos q] at hr; exact hr)) (fun q => kf (by rw [if_neg q] at hr; exact hr))
theorem mz_if_gt (X : mz_X p g own cc nL A s m args c) {x : Int32} {off : Int} (tgt : Nat) (hdg : decode cc pc = .ok (.ifCond .gt off, 3)) (ht : (pc : Int) + off = (tgt : Int)) {β : Type} {PT PF : Option β} {z : β} (hr : (if 0 < x then PT else PF) = some z)
    (kt : PT = some z → W p l e R s m args below meth c H locs cells slots Q (F0 m tgt ls rest)) (kf : PF = some z → W p l e R s m args below meth c H locs cells slots Q (F0 m (pc + 3) ls rest)) : W p l e R s m args below meth c H locs cells slots Q (F0 m pc ls (.int x :: rest)) :=
  lv_if_gt X.1 X.2.1 hdg ht (fun q => kt (by rw [if_pos q] at hr; exact hr)) (fun q => kf (by rw [if_neg q] at hr; exact hr))
theorem mz_icmp_gt (X : mz_X p g own cc nL A s m args c) {x y : Int32} {off : Int} (tgt : Nat) (hdg : decode cc pc = .ok (.if_icmp .gt off, 3)) (ht : (pc : Int) + off = (tgt : Int)) {β : Type} {PT PF : Option β} {z : β} (hr : (if y < x then PT else PF) = some z)
    (kt : PT = some z → W p l e R s m args below meth c H locs cells slots Q (F0 m tgt ls rest)) (kf : PF = some z → W p l e R s m args below meth c H locs cells slots Q (F0 m (pc + 3) ls rest)) : W p l e R s m args below meth c H locs cells slots Q (F0 m pc ls (.int y :: .int x :: rest)) :=
  lv_icmp_gt X.1 X.2.1 hdg ht (fun q => kt (by rw [if_pos q] at hr; exact hr)) (fun q => kf (by rw [if_neg q] at hr; exact hr))
theorem mz_if_le (X : mz_X p g own cc nL A s m args c) {x : Int32} {off : Int} (tgt : Nat) (hdg : decode cc pc = .ok (.ifCond .le off, 3)) (ht : (pc : Int) + off = (tgt : Int)) {β : Type} {PT PF : Option β} {z : β} (hr : (if x ≤ 0 then PT else PF) = some z)
    (kt : PT = some z → W p l e R s m args below meth c H locs cells slots Q (F0 m tgt ls rest)) (kf : PF = some z → W p l e R s m args below meth c H locs cells slots Q (F0 m (pc + 3) ls rest)) : W p l e R s m args below meth c H locs cells slots Q (F0 m pc ls (.int x :: rest)) :=
  lv_if_le X.1 X.2.1 hdg ht (fun q => kt (by rw [if_pos q] at hr; exact hr)) (fun q => kf (by rw [if_neg q] at hr; exact hr))
theorem mz_icmp_le (X : mz_X p g own cc nL A s m args c) {x y : Int32} {off : Int} (tgt : Nat) (hdg : decode cc pc = .ok (.if_icmp .le off, 3)) (ht : (pc : Int) + off = (tgt : Int)) {β : Type} {PT PF : Option β} {z : β} (hr : (if x ≤ y then PT else PF) = some z)
    (kt : PT = some z → W p l e R s m args below meth c H locs cells slots Q (F0 m tgt ls rest)) (kf : PF = some z → W p l e R s m args below meth c H locs cells slots Q (F0 m (pc + 3) ls rest)) : W p l e R s m args below meth c H locs cells slots Q (F0 m pc ls (.int y :: .int x :: rest)) :=
  lv_icmp_le X.1 X.2.1 hdg ht (fun q => kt (by rw [if_pos q] at hr; exact hr)) (fun q => kf (by rw [if_neg q] at hr; exact hr))
theorem mz_ifnull (X : mz_X p g own cc nL A s m args c) {r : Option Nat} {off : Int} (tgt : Nat) (hdg : decode cc pc = .ok (.ifnull off, 3)) (ht : (pc : Int) + off = (tgt : Int)) {β : Type} {PT PF : Option β} {z : β} (hr : (if r = none then PT else PF) = some z)
    (kt : PT = some z → W p l e R s m args below meth c H locs cells slots Q (F0 m tgt ls rest)) (kf : PF = some z → W p l e R s m args below meth c H locs cells slots Q (F0 m (pc + 3) ls rest)) : W p l e R s m args below meth c H locs cells slots Q (F0 m pc ls (va_rf r :: rest)) := by
  cases r with
  | none => exact lv_ifnullN X.1 X.2.1 hdg ht (kt hr)
  | some a => exact lv_ifnull X.1 X.2.1 hdg (kf (by rw [if_neg (fun q => by cases q)] at hr; exact hr))
theorem mz_ifnonnull (X : mz_X p g own cc nL A s m args c) {r : Option Nat} {off : Int} (tgt : Nat) (hdg : decode cc pc = .ok (.ifnonnull off, 3)) (ht : (pc : Int) + off = (tgt : Int)) {β : Type} {PT PF : Option β} {z : β} (hr : (if r = none then PF else PT) = some z)
    (kt : PT = some z → W p l e R s m args below meth c H locs cells slots Q (F0 m tgt ls rest)) (kf : PF = some z → W p l e R s m args below meth c H locs cells slots Q (F0 m (pc + 3) ls rest)) : W p l e R s m args below meth c H locs cells slots Q (F0 m pc ls (va_rf r :: rest)) := by
  cases r with
  | none => exact lv_ifnonnullN X.1 X.2.1 hdg (kf hr)
  | some a => exact lv_ifnonnull X.1 X.2.1 hdg ht (kt (by rw [if_neg (fun q => by cases q)] at hr; exact hr))
theorem mz_null (X : mz_X p g own cc nL A s m args c) (hdg : decode cc pc = .ok (.aconst_null, 1)) (k : W p l e R s m args below meth c H locs cells slots Q (F0 m (pc + 1) ls (va_rf none :: rest))) : W p l e R s m args below meth c H locs cells slots Q (F0 m pc ls rest) := lv_null X.1 X.2.1 hdg k
theorem mz_aload_n (X : mz_X p g own cc nL A s m args c) {k : Fin 4} {i : Nat} {r : Option Nat} (hdg : decode cc pc = .ok (.aload_n k, 1)) (hi : (k : Nat) = i) (hl : ls[i]? = some (.val (va_rf r)))
    (kk : W p l e R s m args below meth c H locs cells slots Q (F0 m (pc + 1) ls (va_rf r :: rest))) : W p l e R s m args below meth c H locs cells slots Q (F0 m pc ls rest) := by
  cases r with
  | none => exact lv_aload_nN X.1 X.2.1 hdg hi hl kk
  | some a => exact lv_aload_n X.1 X.2.1 hdg hi hl kk
theorem mz_aload (X : mz_X p g own cc nL A s m args c) {i : Nat} {r : Option Nat} (hdg : decode cc pc = .ok (.aload i, 2)) (hl : ls[i]? = some (.val (va_rf r)))
    (kk : W p l e R s m args below meth c H locs cells slots Q (F0 m (pc + 2) ls (va_rf r :: rest))) : W p l e R s m args below meth c H locs cells slots Q (F0 m pc ls rest) := by
  cases r with
  | none => exact lv_aloadN X.1 X.2.1 hdg hl kk
  | some a => exact lv_aload X.1 X.2.1 hdg hl kk
theorem mz_dupR (X : mz_X p g own cc nL A s m args c) {r : Option Nat} (hdg : decode cc pc = .ok (.dup, 1)) (k : W p l e R s m args below meth c H locs cells slots Q (F0 m (pc + 1) ls (va_rf r :: va_rf r :: rest))) : W p l e R s m args below meth c H locs cells slots Q (F0 m pc ls (va_rf r :: rest)) := lv_dup X.1 X.2.1 hdg (mz_cat_rf r) k
theorem mz_dup2 (X : mz_X p g own cc nL A s m args c) {r : Option Nat} {i : Int32} (hdg : decode cc pc = .ok (.dup2, 1)) (k : W p l e R s m args below meth c H locs cells slots Q (F0 m (pc + 1) ls (.int i :: va_rf r :: .int i :: va_rf r :: rest))) : W p l e R s m args below meth c H locs cells slots Q (F0 m pc ls (.int i :: va_rf r :: rest)) := lv_dup2_11 X.1 X.2.1 hdg rfl (mz_cat_rf r) k
theorem mz_istore_n (X : mz_X p g own cc nL A s m args c) {k : Fin 4} {i : Nat} {x : Int32} {lv : List (Nat × Bool × Value)} (lv' : List (Nat × Bool × Value)) (hdg : decode cc pc = .ok (.istore_n k, 1)) (hi : (k : Nat) = i) (hl : mz_L ls nL lv) (hn : i < nL) (he : (i, false, Value.int x) :: lv.filter (fun q => !(q.1 == i) && !(q.1 + 1 == i && q.2.1)) = lv')
    (kk : ∀ ls' : Array Slot, mz_L ls' nL lv' → W p l e R s m args below meth c H locs cells slots Q (F0 m (pc + 1) ls' rest)) : W p l e R s m args below meth c H locs cells slots Q (F0 m pc ls (.int x :: rest)) := by
  subst hi
  obtain ⟨ls', e', h'⟩ := mz_st1 (v := .int x) hl hn rfl
  have hexec := X.1
  have hb := X.2.1
  intro T hT XX
  obtain ⟨t, a, b⟩ := kk ls' (he ▸ h') T hT XX
  refine ⟨t, ?_, b⟩
  jvm_step XX.here [XX.here.top, ↓top_set XX.here.top, hexec, hb, hdg, e']
  exact a
theorem mz_istore (X : mz_X p g own cc nL A s m args c) {i : Nat} {x : Int32} {lv : List (Nat × Bool × Value)} (lv' : List (Nat × Bool × Value)) (hdg : decode cc pc = .ok (.istore i, 2)) (hl : mz_L ls nL lv) (hn : i < nL) (he : (i, false, Value.int x) :: lv.filter (fun q => !(q.1 == i) && !(q.1 + 1 == i && q.2.1)) = lv')
    (kk : ∀ ls' : Array Slot, mz_L ls' nL lv' → W p l e R s m args below meth c H locs cells slots Q (F0 m (pc + 2) ls' rest)) : W p l e R s m args below meth c H locs cells slots Q (F0 m pc ls (.int x :: rest)) := by
  obtain ⟨ls', e', h'⟩ := mz_st1 (v := .int x) hl hn rfl
  have hexec := X.1
  have hb := X.2.1
  intro T hT XX
  obtain ⟨t, a, b⟩ := kk ls' (he ▸ h') T hT XX
  refine ⟨t, ?_, b⟩
  jvm_step XX.here [XX.here.top, ↓top_set XX.here.top, hexec, hb, hdg, e']
  exact a
theorem mz_lstore_n (X : mz_X p g own cc nL A s m args c) {k : Fin 4} {i : Nat} {x : Int64} {lv : List (Nat × Bool × Value)} (lv' : List (Nat × Bool × Value)) (hdg : decode cc pc = .ok (.lstore_n k, 1)) (hi : (k : Nat) = i) (hl : mz_L ls nL lv) (hn : i + 1 < nL) (he : (i, true, Value.long x) :: lv.filter (fun q => !(q.1 == i) && (!(q.1 == i + 1) && !(q.1 + 1 == i && q.2.1))) = lv')
    (kk : ∀ ls' : Array Slot, mz_L ls' nL lv' → W p l e R s m args below meth c H locs cells slots Q (F0 m (pc + 1) ls' rest)) : W p l e R s m args below meth c H locs cells slots Q (F0 m pc ls (.long x :: rest)) := by
  subst hi
  obtain ⟨ls', e', h'⟩ := mz_st2 (v := .long x) hl hn rfl
  have hexec := X.1
  have hb := X.2.1
  intro T hT XX
  obtain ⟨t, a, b⟩ := kk ls' (he ▸ h') T hT XX
  refine ⟨t, ?_, b⟩
  jvm_step XX.here [XX.here.top, ↓top_set XX.here.top, hexec, hb, hdg, e']
  exact a
theorem mz_lstore (X : mz_X p g own cc nL A s m args c) {i : Nat} {x : Int64} {lv : List (Nat × Bool × Value)} (lv' : List (Nat × Bool × Value)) (hdg : decode cc pc = .ok (.lstore i, 2)) (hl : mz_L ls nL lv) (hn : i + 1 < nL) (he : (i, true, Value.long x) :: lv.filter (fun q => !(q.1 == i) && (!(q.1 == i + 1) && !(q.1 + 1 == i && q.2.1))) = lv')
    (kk : ∀ ls' : Array Slot, mz_L ls' nL lv' → W p l e R s m args below meth c H locs cells slots Q (F0 m (pc + 2) ls' rest)) : W p l e R s m args below meth c H locs cells slots Q (F0 m pc ls (.long x :: rest)) := by
  obtain ⟨ls', e', h'⟩ := mz_st2 (v := .long x) hl hn rfl
  have hexec := X.1
  have hb := X.2.1
  intro T hT XX
  obtain ⟨t, a, b⟩ := kk ls' (he ▸ h') T hT XX
  refine ⟨t, ?_, b⟩
  jvm_step XX.here [XX.here.top, ↓top_set XX.here.top, hexec, hb, hdg, e']
  exact a
theorem mz_dstore_n (X : mz_X p g own cc nL A s m args c) {k : Fin 4} {i : Nat} {x : UInt64} {lv : List (Nat × Bool × Value)} (lv' : List (Nat × Bool × Value)) (hdg : decode cc pc = .ok (.dstore_n k, 1)) (hi : (k : Nat) = i) (hl : mz_L ls nL lv) (hn : i + 1 < nL) (he : (i, true, Value.double x) :: lv.filter (fun q => !(q.1 == i) && (!(q.1 == i + 1) && !(q.1 + 1 == i && q.2.1))) = lv')
    (kk : ∀ ls' : Array Slot, mz_L ls' nL lv' → W p l e R s m args below meth c H locs cells slots Q (F0 m (pc + 1) ls' rest)) : W p l e R s m args below meth c H locs cells slots Q (F0 m pc ls (.double x :: rest)) := by
  subst hi
  obtain ⟨ls', e', h'⟩ := mz_st2 (v := .double x) hl hn rfl
  have hexec := X.1
  have hb := X.2.1
  intro T hT XX
  obtain ⟨t, a, b⟩ := kk ls' (he ▸ h') T hT XX
  refine ⟨t, ?_, b⟩
  jvm_step XX.here [XX.here.top, ↓top_set XX.here.top, hexec, hb, hdg, e']
  exact a
theorem mz_dstore (X : mz_X p g own cc nL A s m args c) {i : Nat} {x : UInt64} {lv : List (Nat × Bool × Value)} (lv' : List (Nat × Bool × Value)) (hdg : decode cc pc = .ok (.dstore i, 2)) (hl : mz_L ls nL lv) (hn : i + 1 < nL) (he : (i, true, Value.double x) :: lv.filter (fun q => !(q.1 == i) && (!(q.1 == i + 1) && !(q.1 + 1 == i && q.2.1))) = lv')
    (kk : ∀ ls' : Array Slot, mz_L ls' nL lv' → W p l e R s m args below meth c H locs cells slots Q (F0 m (pc + 2) ls' rest)) : W p l e R s m args below meth c H locs cells slots Q (F0 m pc ls (.double x :: rest)) := by
  obtain ⟨ls', e', h'⟩ := mz_st2 (v := .double x) hl hn rfl
  have hexec := X.1
  have hb := X.2.1
  intro T hT XX
  obtain ⟨t, a, b⟩ := kk ls' (he ▸ h') T hT XX
  refine ⟨t, ?_, b⟩
  jvm_step XX.here [XX.here.top, ↓top_set XX.here.top, hexec, hb, hdg, e']
  exact a
theorem mz_astore_n (X : mz_X p g own cc nL A s m args c) {k : Fin 4} {i : Nat} {r : Option Nat} {lv : List (Nat × Bool × Value)} (lv' : List (Nat × Bool × Value)) (hdg : decode cc pc = .ok (.astore_n k, 1)) (hi : (k : Nat) = i) (hl : mz_L ls nL lv) (hn : i < nL) (he : (i, false, va_rf r) :: lv.filter (fun q => !(q.1 == i) && !(q.1 + 1 == i && q.2.1)) = lv')
    (kk : ∀ ls' : Array Slot, mz_L ls' nL lv' → W p l e R s m args below meth c H locs cells slots Q (F0 m (pc + 1) ls' rest)) : W p l e R s m args below meth c H locs cells slots Q (F0 m pc ls (va_rf r :: rest)) := by
  subst hi
  obtain ⟨ls', e', h'⟩ := mz_st1 (v := va_rf r) hl hn (mz_cat_rf r)
  have hexec := X.1
  have hb := X.2.1
  intro T hT XX
  obtain ⟨t, a, b⟩ := kk ls' (he ▸ h') T hT XX
  refine ⟨t, ?_, b⟩
  cases r with
  | none =>
    have e' : storeLocals ls _ .null = some ls' := e'
    jvm_step XX.here [XX.here.top, ↓top_set XX.here.top, hexec, hb, hdg, e', va_rf]
    exact ⟨rfl, a⟩
  | some r =>
    have e' : storeLocals ls _ (.ref r) = some ls' := e'
    jvm_step XX.here [XX.here.top, ↓top_set XX.here.top, hexec, hb, hdg, e', va_rf]
    exact ⟨rfl, a⟩
theorem mz_astore (X : mz_X p g own cc nL A s m args c) {i : Nat} {r : Option Nat} {lv : List (Nat × Bool × Value)} (lv' : List (Nat × Bool × Value)) (hdg : decode cc pc = .ok (.astore i, 2)) (hl : mz_L ls nL lv) (hn : i < nL) (he : (i, false, va_rf r) :: lv.filter (fun q => !(q.1 == i) && !(q.1 + 1 == i && q.2.1)) = lv')
    (kk : ∀ ls' : Array Slot, mz_L ls' nL lv' → W p l e R s m args below meth c H locs cells slots Q (F0 m (pc + 2) ls' rest)) : W p l e R s m args below meth c H locs cells slots Q (F0 m pc ls (va_rf r :: rest)) := by
  obtain ⟨ls', e', h'⟩ := mz_st1 (v := va_rf r) hl hn (mz_cat_rf r)
  have hexec := X.1
  have hb := X.2.1
  intro T hT XX
  obtain ⟨t, a, b⟩ := kk ls' (he ▸ h') T hT XX
  refine ⟨t, ?_, b⟩
  cases r with
  | none =>
    have e' : storeLocals ls _ .null = some ls' := e'
    jvm_step XX.here [XX.here.top, ↓top_set XX.here.top, hexec, hb, hdg, e', va_rf]
    exact ⟨rfl, a⟩
  | some r =>
    have e' : storeLocals ls _ (.ref r) = some ls' := e'
    jvm_step XX.here [XX.here.top, ↓top_set XX.here.top, hexec, hb, hdg, e', va_rf]
    exact ⟨rfl, a⟩
theorem mz_iinc (X : mz_X p g own cc nL A s m args c) {i k : Nat} {n : Int} {x : Int32} {b : Bool} {lv : List (Nat × Bool × Value)} (lv' : List (Nat × Bool × Value)) (v : Int32) (hdg : decode cc pc = .ok (.iinc i n, 3)) (hl : mz_L ls nL lv) (hk : lv[k]? = some (i, b, .int x)) (hv : x + Int32.ofInt n = v) (hn : i < nL) (he : (i, false, Value.int v) :: lv.filter (fun q => !(q.1 == i) && !(q.1 + 1 == i && q.2.1)) = lv')
    (kk : ∀ ls' : Array Slot, mz_L ls' nL lv' → W p l e R s m args below meth c H locs cells slots Q (F0 m (pc + 3) ls' rest)) : W p l e R s m args below meth c H locs cells slots Q (F0 m pc ls rest) := by
  subst hv
  have hg := mz_at hl k hk
  obtain ⟨ls', e', h'⟩ := mz_st1 (v := .int (x + Int32.ofInt n)) hl hn rfl
  have hexec := X.1
  have hb := X.2.1
  intro T hT XX
  obtain ⟨t, a, b⟩ := kk ls' (he ▸ h') T hT XX
  refine ⟨t, ?_, b⟩
  jvm_step XX.here [XX.here.top, ↓top_set XX.here.top, hexec, hb, hdg, hg, e']
  exact a
end MZB

/-! ROWS over the abstract heap: fields, arrays, new -/
def mz_fv (h : mz_H) (a : Option Nat) (ci k : Nat) : Option Value := match a with
  | none => none
  | some a => match h.1 a with
    | some (.inr (c, fs)) => if c = ci then fs[k]? else none
    | _ => none
def mz_fI (h : mz_H) (a : Option Nat) (ci k : Nat) : Option Int32 := match mz_fv h a ci k with
  | some (.int v) => some v
  | _ => none
def mz_fR (h : mz_H) (a : Option Nat) (ci k : Nat) : Option (Option Nat) := match mz_fv h a ci k with
  | some .null => some none
  | some (.ref b) => some (some b)
  | _ => none
/-- a field of an object becomes v -/
def mz_pF (h : mz_H) (a : Option Nat) (ci k : Nat) (v : Value) : Option mz_H := match a with
  | none => none
  | some a => match h.1 a with
    | some (.inr (c, fs)) => if c = ci ∧ k < fs.length then some (mz_up h a (.inr (c, fs.set k v))) else none
    | _ => none
/-- the array of kind t at a -/
def mz_ar (h : mz_H) (a : Option Nat) (t : Nat) : Option vp_A := match a with
  | none => none
  | some a => match h.1 a with
    | some (.inl (t', x)) => if t' = t then some x else none
    | _ => none
def mz_ix (i : Int32) (n : Nat) : Bool := decide (¬ (i < 0 ∨ n ≤ i.toNatClampNeg))
def mz_aI (h : mz_H) (a : Option Nat) (t : Nat) (i : Int32) : Option Int32 := match mz_ar h a t with
  | some (n, .inl f) => if mz_ix i n then some (f i.toNatClampNeg) else none
  | _ => none
def mz_aJ (h : mz_H) (a : Option Nat) (i : Int32) : Option Int64 := match mz_ar h a 1 with
  | some (n, .inr (.inl f)) => if mz_ix i n then some (f i.toNatClampNeg) else none
  | _ => none
def mz_aR (h : mz_H) (a : Option Nat) (t : Nat) (i : Int32) : Option (Option Nat) := match mz_ar h a t with
  | some (n, .inr (.inr (.inr (.inr f)))) => if mz_ix i n then some (f i.toNatClampNeg) else none
  | _ => none
def mz_sA (h : mz_H) (a : Option Nat) (e : mz_E) : Option mz_H := match a with
  | none => none
  | some a => some (mz_up h a e)
def mz_sI (h : mz_H) (a : Option Nat) (t : Nat) (i v : Int32) : Option mz_H := match mz_ar h a t with
  | some (n, .inl f) => if mz_ix i n then mz_sA h a (.inl (t, n, .inl (upd f i.toNatClampNeg v))) else none
  | _ => none
def mz_sJ (h : mz_H) (a : Option Nat) (i : Int32) (v : Int64) : Option mz_H := match mz_ar h a 1 with
  | some (n, .inr (.inl f)) => if mz_ix i n then mz_sA h a (.inl (1, n, .inr (.inl (vp_updL f i.toNatClampNeg v)))) else none
  | _ => none
/-- an object of class ci is there -/
def mz_is (h : mz_H) (a : Option Nat) (ci : Nat) : Bool := match a with
  | none => false
  | some a => match h.1 a with
    | some (.inr (c, _)) => c == ci
    | _ => false
def mz_sR (h : mz_H) (a : Option Nat) (t : Nat) (i : Int32) (v : Option Nat) : Option mz_H := match mz_ar h a t with
  | some (n, .inr (.inr (.inr (.inr f)))) => if mz_ix i n && (v.isNone || mz_is h v (t - 10)) then mz_sA h a (.inl (t, n, .inr (.inr (.inr (.inr (va_up f i.toNatClampNeg v)))))) else none
  | _ => none
def mz_len (h : mz_H) (a : Option Nat) (t : Nat) : Option Int32 := match mz_ar h a t with
  | some x => some (Int32.ofNat x.1)
  | none => none
theorem mz_fv_some {h : mz_H} {a : Option Nat} {ci k : Nat} {v : Value} (e : mz_fv h a ci k = some v) : ∃ a0 fs, a = some a0 ∧ h.1 a0 = some (.inr (ci, fs)) ∧ fs[k]? = some v := by
  cases a with
  | none => cases e
  | some a =>
    simp only [mz_fv] at e
    split at e
    · rename_i c fs hc
      split at e
      · rename_i hci
        subst hci
        exact ⟨a, fs, rfl, hc, e⟩
      · cases e
    · cases e
theorem mz_fI_some {h : mz_H} {a : Option Nat} {ci k : Nat} {v : Int32} (e : mz_fI h a ci k = some v) : mz_fv h a ci k = some (.int v) := by
  unfold mz_fI at e
  split at e
  · rename_i w hw
    cases e
    exact hw
  · cases e
theorem mz_fR_some {h : mz_H} {a : Option Nat} {ci k : Nat} {v : Option Nat} (e : mz_fR h a ci k = some v) : mz_fv h a ci k = some (va_rf v) := by
  unfold mz_fR at e
  split at e
  · rename_i hw
    cases e
    exact hw
  · rename_i w hw
    cases e
    exact hw
  · cases e
theorem mz_pF_some {h h' : mz_H} {a : Option Nat} {ci k : Nat} {v : Value} (e : mz_pF h a ci k v = some h') : ∃ a0 fs, a = some a0 ∧ h.1 a0 = some (.inr (ci, fs)) ∧ k < fs.length ∧ h' = mz_up h a0 (.inr (ci, fs.set k v)) := by
  cases a with
  | none => cases e
  | some a =>
    simp only [mz_pF] at e
    split at e
    · rename_i c fs hc
      split at e
      · rename_i hci
        obtain ⟨rfl, hl⟩ := hci
        cases e
        exact ⟨a, fs, rfl, hc, hl, rfl⟩
      · cases e
    · cases e
theorem mz_ar_some {h : mz_H} {a : Option Nat} {t : Nat} {x : vp_A} (e : mz_ar h a t = some x) : ∃ a0, a = some a0 ∧ h.1 a0 = some (.inl (t, x)) := by
  cases a with
  | none => cases e
  | some a =>
    simp only [mz_ar] at e
    split at e
    · rename_i t' y hc
      split at e
      · rename_i ht
        subst ht
        cases e
        exact ⟨a, rfl, hc⟩
      · cases e
    · cases e
theorem mz_ix_in {i : Int32} {n : Nat} (h : mz_ix i n = true) : vp_in i n := by
  have h1 : ¬ (i < 0 ∨ n ≤ i.toNatClampNeg) := of_decide_eq_true h
  exact h1
theorem mz_is_some {h : mz_H} {a : Option Nat} {ci : Nat} (e : mz_is h a ci = true) : ∃ a0 fs, a = some a0 ∧ h.1 a0 = some (.inr (ci, fs)) := by
  cases a with
  | none => cases e
  | some a =>
    simp only [mz_is] at e
    split at e
    · rename_i c fs hc
      have := eq_of_beq e
      subst this
      exact ⟨a, fs, rfl, hc⟩
    · cases e
def mz_FL (own : String) (index ci k : Nat) : Prop := ∃ C T N, vwCl[ci]? = some (C, T, N) ∧ k < N ∧ Cond.fieldLink own index (T k).1 (T k).2.1 (T k).2.2.1 ∈ mz_tbl ∧ ∀ w ∈ u_ws C T N, w ∈ mz_tbl
def mz_FP (own : String) (index ci k : Nat) (ty : FieldType) (fin : Bool) : Prop := ∃ (C : String) (T : u_T) (N : Nat) (tys : Nat → FieldType), vwCl[ci]? = some (C, T, N) ∧ k < N ∧ Cond.fieldLink own index (T k).1 (T k).2.1 (T k).2.2.1 ∈ mz_tbl ∧ (∀ w ∈ u_ws C T N, w ∈ mz_tbl) ∧ (∀ k, k < N → parseFieldDescriptor (T k).2.2.1 = some (tys k)) ∧ (∀ a, a < N → ∀ b, b < N → a ≠ b → (T a).2.1 ≠ (T b).2.1) ∧ tys k = ty ∧ (T k).2.2.2 = fin ∧ (fin = true → (T k).1 = own)
section MZR
variable {p : Program} {l : Launch} {e : Env} {R : Room} {s : State} {m : MethodId} {args : Array Value} {below : List Frame} {meth : Method} {c : Code} {H : Heap} {locs : List Loc} {cells slots : Nat} {Q : State → Prop}
variable {cc : ByteArray} {pc nL : Nat} {ls : Array Slot} {rest : List Value} {g : mz_G} {A : Nat → Prop} {h : mz_H} {own : String}
theorem mz_get (X : mz_X p g own cc nL A s m args c) (hH : mz_R g A h H) {index ci k : Nat} (hF : mz_FL own index ci k) {a : Option Nat} {v : Value} (hv : mz_fv h a ci k = some v) (hdg : decode cc pc = .ok (.getfield index, 3))
    (kk : W p l e R s m args below meth c H locs cells slots Q (F0 m (pc + 3) ls (v :: rest))) : W p l e R s m args below meth c H locs cells slots Q (F0 m pc ls (va_rf a :: rest)) := by
  obtain ⟨hx, hb, hml, hown, hts, hK, hZ, hA⟩ := X
  obtain ⟨a0, fs, rfl, hc, hfs⟩ := mz_fv_some hv
  obtain ⟨C, T, N, f1, f2, f3, f4⟩ := hF
  exact va_get (ws := [(a0, .inr (ci, fs))]) (ref := (T k).1) hx hb hts f4 hown hK.1 (fun j q hj => by
    have hz : j < 1 := (List.getElem?_eq_some_iff.mp hj).1
    rw [show j = 0 by omega] at hj
    cases hj
    exact (hH.2 a0 _ hc).1) 0 rfl f1 k f2 (hts _ f3) (fun _ h => h) hfs hdg kk
theorem mz_getI (X : mz_X p g own cc nL A s m args c) (hH : mz_R g A h H) {index ci k : Nat} (hF : mz_FL own index ci k) (hdg : decode cc pc = .ok (.getfield index, 3)) {a : Option Nat} {β : Type} {K : Int32 → Option β} {z : β} (hr : mz_op (mz_fI h a ci k) K = some z)
    (kk : ∀ v : Int32, K v = some z → W p l e R s m args below meth c H locs cells slots Q (F0 m (pc + 3) ls (.int v :: rest))) : W p l e R s m args below meth c H locs cells slots Q (F0 m pc ls (va_rf a :: rest)) := by
  obtain ⟨v, hv, hr⟩ := mz_op_some hr
  exact mz_get X hH hF (mz_fI_some hv) hdg (kk v hr)
theorem mz_getR (X : mz_X p g own cc nL A s m args c) (hH : mz_R g A h H) {index ci k : Nat} (hF : mz_FL own index ci k) (hdg : decode cc pc = .ok (.getfield index, 3)) {a : Option Nat} {β : Type} {K : Option Nat → Option β} {z : β} (hr : mz_op (mz_fR h a ci k) K = some z)
    (kk : ∀ v : Option Nat, K v = some z → W p l e R s m args below meth c H locs cells slots Q (F0 m (pc + 3) ls (va_rf v :: rest))) : W p l e R s m args below meth c H locs cells slots Q (F0 m pc ls (va_rf a :: rest)) := by
  obtain ⟨v, hv, hr⟩ := mz_op_some hr
  exact mz_get X hH hF (mz_fR_some hv) hdg (kk v hr)
theorem mz_put (X : mz_X p g own cc nL A s m args c) (hH : mz_R g A h H) (hS : va_S A s.heap H locs) {index ci k : Nat} {ty : FieldType} (hF : mz_FP own index ci k ty false) (hdg : decode cc pc = .ok (.putfield index, 3)) {a : Option Nat} {v : Value} (hn : narrow ty v = v) (hfit : fits ty v = true) {β : Type} {K : mz_H → Option β} {z : β} (hr : mz_op (mz_pF h a ci k v) K = some z)
    (kk : ∀ (h1 : mz_H) (H1 : Heap) (locs1 : List Loc), K h1 = some z → mz_R g A h1 H1 → va_S A s.heap H1 locs1 → W p l e R s m args below meth c H1 locs1 cells slots Q (F0 m (pc + 3) ls rest)) : W p l e R s m args below meth c H locs cells slots Q (F0 m pc ls (v :: va_rf a :: rest)) := by
  obtain ⟨h1, hv, hr⟩ := mz_op_some hr
  obtain ⟨hx, hb, hml, hown, hts, hK, hZ, hA⟩ := X
  obtain ⟨a0, fs, rfl, hc, hl, rfl⟩ := mz_pF_some hv
  obtain ⟨C, T, N, tys, f1, f2, f3, f4, f5, f6, f7, f8, f9⟩ := hF
  have hap := va_apart (own := own) hts f4 tys f5 f6 hK.1 f1
  obtain ⟨hat, hAa⟩ := hH.2 a0 _ hc
  obtain ⟨r, h1, cell, q1, q2, q3, q4⟩ := hat
  have hr' : r = (C, T, N) := Option.some.inj (h1.symm.trans f1)
  subst hr'
  obtain ⟨hSl, hfc, kC, hkC, hkind⟩ := hK.1.1 ci _ f1
  obtain ⟨cf, kf, fi, f, hi, hsl⟩ := hSl k f2
  have hlay := hts _ (f4 _ (u_in_lay f2))
  unfold u_lay at hlay
  rw [if_neg (by rw [f8]; decide)] at hlay
  have hst := (u_facts hfc hkC (u_lays hts f4 f2) hi).1
  have h6 := u_store hfc hkC hkind hlay hi (by rw [f5 k f2, f7]) hn hfit
  refine W.putK hx hb (f := f) ⟨hown, hts _ f3, ⟨_, _, _, hi⟩, hst⟩ (by rw [q2]; exact h6) q1 q3 (by rw [hsl]; exact k2_hasslot (q4 k f2)) rfl rfl hdg fun H' e1 e2 e3 => ?_
  rw [hsl] at e1 ⊢
  exact kk _ H' _ hr (hH.up hc ⟨_, f1, t_OB.to (V := updV (vp_V fs) k v) ⟨_, e1, q2, q3, t_set q4 hap f2 v⟩ (fun j _ => vp_updV_set hl v j)⟩ e2 e3) (hS.put e2 e3 hAa)
theorem mz_putF (X : mz_X p g own cc nL A s m args c) (hin : meth.name = "<init>") (hH : mz_R g A h H) (hS : va_S A s.heap H locs) {index ci k : Nat} {ty : FieldType} (hF : mz_FP own index ci k ty true) (hdg : decode cc pc = .ok (.putfield index, 3)) {a : Option Nat} {v : Value} (hn : narrow ty v = v) (hfit : fits ty v = true) {β : Type} {K : mz_H → Option β} {z : β} (hr : mz_op (mz_pF h a ci k v) K = some z)
    (kk : ∀ (h1 : mz_H) (H1 : Heap) (locs1 : List Loc), K h1 = some z → mz_R g A h1 H1 → va_S A s.heap H1 locs1 → W p l e R s m args below meth c H1 locs1 cells slots Q (F0 m (pc + 3) ls rest)) : W p l e R s m args below meth c H locs cells slots Q (F0 m pc ls (v :: va_rf a :: rest)) := by
  obtain ⟨h1, hv, hr⟩ := mz_op_some hr
  obtain ⟨hx, hb, hml, hown, hts, hK, hZ, hA⟩ := X
  obtain ⟨a0, fs, rfl, hc, hl, rfl⟩ := mz_pF_some hv
  obtain ⟨C, T, N, tys, f1, f2, f3, f4, f5, f6, f7, f8, f9⟩ := hF
  have hap := va_apart (own := own) hts f4 tys f5 f6 hK.1 f1
  obtain ⟨hat, hAa⟩ := hH.2 a0 _ hc
  obtain ⟨r, h1, cell, q1, q2, q3, q4⟩ := hat
  have hr' : r = (C, T, N) := Option.some.inj (h1.symm.trans f1)
  subst hr'
  obtain ⟨hSl, hfc, kC, hkC, hkind⟩ := hK.1.1 ci _ f1
  obtain ⟨cf, kf, fi, f, hi, hsl⟩ := hSl k f2
  have hlay := hts _ (f4 _ (u_in_lay f2))
  unfold u_lay at hlay
  rw [if_pos f8] at hlay
  have hst := (u_facts hfc hkC (u_lays hts f4 f2) hi).1
  have hcf : m.cls = cf := by
    obtain ⟨_, _, c', _, _, _, -, -, hf', -, -, -, hown2, -⟩ := Cond.laysFinal_spec hlay
    have e1 : c' = cf := by have := hi.symm.trans hf'; simp at this; exact this.1.symm
    rw [f9 rfl] at hown2
    rw [← e1]; exact Option.some.inj (hown.symm.trans hown2)
  have h6 := u_fits hfc hkC hkind (Or.inr hlay) hi (by rw [f5 k f2, f7]) hn hfit
  refine W.putFinK hx hb hown (hts _ f3) hi hst hcf hin (by rw [q2]; exact h6) q1 q3 (by rw [hsl]; exact k2_hasslot (q4 k f2)) rfl rfl hdg fun H' e1 e2 e3 => ?_
  rw [hsl] at e1 ⊢
  exact kk _ H' _ hr (hH.up hc ⟨_, f1, t_OB.to (V := updV (vp_V fs) k v) ⟨_, e1, q2, q3, t_set q4 hap f2 v⟩ (fun j _ => vp_updV_set hl v j)⟩ e2 e3) (hS.put e2 e3 hAa)
theorem mz_iald (X : mz_X p g own cc nL A s m args c) (hH : mz_R g A h H) {a : Option Nat} {i : Int32} (hdg : decode cc pc = .ok (.iaload, 1)) {β : Type} {K : Int32 → Option β} {z : β} (hr : mz_op (mz_aI h a 0 i) K = some z)
    (kk : ∀ v : Int32, K v = some z → W p l e R s m args below meth c H locs cells slots Q (F0 m (pc + 1) ls (.int v :: rest))) : W p l e R s m args below meth c H locs cells slots Q (F0 m pc ls (.int i :: va_rf a :: rest)) := by
  obtain ⟨v, hv, hr2⟩ := mz_op_some hr
  obtain ⟨hx, hb, hml, hown, hts, hK, hZ, hA⟩ := X
  unfold mz_aI at hv
  split at hv
  · rename_i n f har
    split at hv
    · rename_i hi
      cases hv
      obtain ⟨a0, rfl, hc⟩ := mz_ar_some har
      have hin := mz_ix_in hi
      have hlt : i.toNatClampNeg < n := Nat.not_le.mp fun q => hin (Or.inr q)
      exact W.iald (v := .int (f i.toNatClampNeg)) hx hb (hH.2 a0 _ hc).1 ((hK.2.1 0 (by decide)).1 n (fun j => .int (f j))) (fun q => by cases q) (by show ¬ (i < 0 ∨ (arrV _ _ _).slots.size ≤ _); rw [arrV_size]; exact hin) (by show (arrV _ _ _).slots[_]? = _; rw [arrV_read _ _ hlt]) rfl rfl hdg (kk _ hr2)
    · cases hv
  · cases hv
theorem mz_zald (X : mz_X p g own cc nL A s m args c) (hH : mz_R g A h H) {a : Option Nat} {i : Int32} (hdg : decode cc pc = .ok (.baload, 1)) {β : Type} {K : Int32 → Option β} {z : β} (hr : mz_op (mz_aI h a 2 i) K = some z)
    (kk : ∀ v : Int32, K v = some z → W p l e R s m args below meth c H locs cells slots Q (F0 m (pc + 1) ls (.int v :: rest))) : W p l e R s m args below meth c H locs cells slots Q (F0 m pc ls (.int i :: va_rf a :: rest)) := by
  obtain ⟨v, hv, hr2⟩ := mz_op_some hr
  obtain ⟨hx, hb, hml, hown, hts, hK, hZ, hA⟩ := X
  unfold mz_aI at hv
  split at hv
  · rename_i n f har
    split at hv
    · rename_i hi
      cases hv
      obtain ⟨a0, rfl, hc⟩ := mz_ar_some har
      have hin := mz_ix_in hi
      have hlt : i.toNatClampNeg < n := Nat.not_le.mp fun q => hin (Or.inr q)
      exact W.zald (v := .int (f i.toNatClampNeg)) hx hb (hH.2 a0 _ hc).1 ((hK.2.1 2 (by decide)).1 n (fun j => .int (f j))) (fun q => by cases q) (by show ¬ (i < 0 ∨ (arrV _ _ _).slots.size ≤ _); rw [arrV_size]; exact hin) (by show (arrV _ _ _).slots[_]? = _; rw [arrV_read _ _ hlt]) rfl rfl hdg (kk _ hr2)
    · cases hv
  · cases hv
theorem mz_lald (X : mz_X p g own cc nL A s m args c) (hH : mz_R g A h H) {a : Option Nat} {i : Int32} (hdg : decode cc pc = .ok (.laload, 1)) {β : Type} {K : Int64 → Option β} {z : β} (hr : mz_op (mz_aJ h a i) K = some z)
    (kk : ∀ v : Int64, K v = some z → W p l e R s m args below meth c H locs cells slots Q (F0 m (pc + 1) ls (.long v :: rest))) : W p l e R s m args below meth c H locs cells slots Q (F0 m pc ls (.int i :: va_rf a :: rest)) := by
  obtain ⟨v, hv, hr2⟩ := mz_op_some hr
  obtain ⟨hx, hb, hml, hown, hts, hK, hZ, hA⟩ := X
  unfold mz_aJ at hv
  split at hv
  · rename_i n f har
    split at hv
    · rename_i hi
      cases hv
      obtain ⟨a0, rfl, hc⟩ := mz_ar_some har
      have hin := mz_ix_in hi
      have hlt : i.toNatClampNeg < n := Nat.not_le.mp fun q => hin (Or.inr q)
      exact W.lald (v := .long (f i.toNatClampNeg)) hx hb (hH.2 a0 _ hc).1 ((hK.2.1 1 (by decide)).1 n (fun j => .long (f j))) (fun q => by cases q) (by show ¬ (i < 0 ∨ (arrV _ _ _).slots.size ≤ _); rw [arrV_size]; exact hin) (by show (arrV _ _ _).slots[_]? = _; rw [arrV_read _ _ hlt]) rfl rfl hdg (kk _ hr2)
    · cases hv
  · cases hv
theorem mz_aald (X : mz_X p g own cc nL A s m args c) (hH : mz_R g A h H) {a : Option Nat} {t : Nat} (ht : t ∈ mz_tags) (hty : (mz_ty t).isReference = true) {i : Int32} (hdg : decode cc pc = .ok (.aaload, 1)) {β : Type} {K : Option Nat → Option β} {z : β} (hr : mz_op (mz_aR h a t i) K = some z)
    (kk : ∀ v : Option Nat, K v = some z → W p l e R s m args below meth c H locs cells slots Q (F0 m (pc + 1) ls (va_rf v :: rest))) : W p l e R s m args below meth c H locs cells slots Q (F0 m pc ls (.int i :: va_rf a :: rest)) := by
  obtain ⟨v, hv, hr2⟩ := mz_op_some hr
  obtain ⟨hx, hb, hml, hown, hts, hK, hZ, hA⟩ := X
  unfold mz_aR at hv
  split at hv
  · rename_i n f har
    split at hv
    · rename_i hi
      cases hv
      obtain ⟨a0, rfl, hc⟩ := mz_ar_some har
      have hin := mz_ix_in hi
      have hlt : i.toNatClampNeg < n := Nat.not_le.mp fun q => hin (Or.inr q)
      exact W.aald (v := va_rf (f i.toNatClampNeg)) (ty := mz_ty t) hx hb (hH.2 a0 _ hc).1 ((hK.2.1 t ht).1 n (fun j => va_rf (f j))) hty (fun q => by cases q) (by show ¬ (i < 0 ∨ (arrV _ _ _).slots.size ≤ _); rw [arrV_size]; exact hin) (by show (arrV _ _ _).slots[_]? = _; rw [arrV_read _ _ hlt]) rfl rfl hdg (kk _ hr2)
    · cases hv
  · cases hv
theorem mz_alen (X : mz_X p g own cc nL A s m args c) (hH : mz_R g A h H) {a : Option Nat} {t : Nat} (ht : t ∈ mz_tags) (hdg : decode cc pc = .ok (.arraylength, 1)) {β : Type} {K : Int32 → Option β} {z : β} (hr : mz_op (mz_len h a t) K = some z)
    (kk : ∀ v : Int32, K v = some z → W p l e R s m args below meth c H locs cells slots Q (F0 m (pc + 1) ls (.int v :: rest))) : W p l e R s m args below meth c H locs cells slots Q (F0 m pc ls (va_rf a :: rest)) := by
  obtain ⟨v, hv, hr2⟩ := mz_op_some hr
  obtain ⟨hx, hb, hml, hown, hts, hK, hZ, hA⟩ := X
  unfold mz_len at hv
  split at hv
  · rename_i x har
    cases hv
    obtain ⟨a0, rfl, hc⟩ := mz_ar_some har
    exact va_alen (ws := [(a0, .inl (g.2.1 t, x))]) (tys := [(g.2.1 t, mz_ty t)]) (D := g.1) (cl := vwCl) hx hb ⟨hK.1.1, fun j q hj => by
      have hz : j < 1 := (List.getElem?_eq_some_iff.mp hj).1
      rw [show j = 0 by omega] at hj
      cases hj
      exact hK.2.1 t ht⟩ (fun j q hj => by
      have hz : j < 1 := (List.getElem?_eq_some_iff.mp hj).1
      rw [show j = 0 by omega] at hj
      cases hj
      exact (hH.2 a0 _ hc).1) 0 0 rfl rfl rfl hdg (kk _ hr2)
  · cases hv
theorem mz_iast (X : mz_X p g own cc nL A s m args c) (hH : mz_R g A h H) (hS : va_S A s.heap H locs) {a : Option Nat} {i x : Int32} (hdg : decode cc pc = .ok (.iastore, 1)) {β : Type} {K : mz_H → Option β} {z : β} (hr : mz_op (mz_sI h a 0 i x) K = some z)
    (kk : ∀ (h1 : mz_H) (H1 : Heap) (locs1 : List Loc), K h1 = some z → mz_R g A h1 H1 → va_S A s.heap H1 locs1 → W p l e R s m args below meth c H1 locs1 cells slots Q (F0 m (pc + 1) ls rest)) : W p l e R s m args below meth c H locs cells slots Q (F0 m pc ls (.int x :: .int i :: va_rf a :: rest)) := by
  obtain ⟨v, hv, hr2⟩ := mz_op_some hr
  obtain ⟨hx, hb, hml, hown, hts, hK, hZ, hA⟩ := X
  unfold mz_sI at hv
  split at hv
  · rename_i n f har
    split at hv
    · rename_i hi
      obtain ⟨a0, rfl, hc⟩ := mz_ar_some har
      cases hv
      have hin := mz_ix_in hi
      obtain ⟨hat, hAa⟩ := hH.2 a0 _ hc
      refine W.iast hx hb hat ((hK.2.1 0 (by decide)).1 n (fun j => .int (f j))) (fun q => by cases q) (by show ¬ (i < 0 ∨ (arrV _ _ _).slots.size ≤ _); rw [arrV_size]; exact hin) rfl rfl hdg fun H1 e z oq => ?_
      refine kk _ H1 _ hr2 (hH.up hc ?_ z oq) (hS.put z oq hAa)
      show H1[a0]? = some (vp_cell _ _)
      rw [e]
      show some ((vp_cell _ (n, .inl f)).setSlot _ _) = some (vp_cell _ (n, .inl _))
      rw [vp_cell_i, vp_cell_i, arrV_store]
      congr 2
      funext q
      by_cases hq : q = i.toNatClampNeg
      · subst hq
        simp [updV, upd]
      · simp [updV, upd, hq]
    · cases hv
  · cases hv
theorem mz_nz (x : Int32) : narrow .boolean (.int x) = .int (x &&& 1) := by rfl
theorem mz_zast (X : mz_X p g own cc nL A s m args c) (hH : mz_R g A h H) (hS : va_S A s.heap H locs) {a : Option Nat} {i x : Int32} (hdg : decode cc pc = .ok (.bastore, 1)) {β : Type} {K : mz_H → Option β} {z : β} (hr : mz_op (mz_sI h a 2 i (x &&& 1)) K = some z)
    (kk : ∀ (h1 : mz_H) (H1 : Heap) (locs1 : List Loc), K h1 = some z → mz_R g A h1 H1 → va_S A s.heap H1 locs1 → W p l e R s m args below meth c H1 locs1 cells slots Q (F0 m (pc + 1) ls rest)) : W p l e R s m args below meth c H locs cells slots Q (F0 m pc ls (.int x :: .int i :: va_rf a :: rest)) := by
  obtain ⟨v, hv, hr2⟩ := mz_op_some hr
  obtain ⟨hx, hb, hml, hown, hts, hK, hZ, hA⟩ := X
  unfold mz_sI at hv
  split at hv
  · rename_i n f har
    split at hv
    · rename_i hi
      obtain ⟨a0, rfl, hc⟩ := mz_ar_some har
      cases hv
      have hin := mz_ix_in hi
      obtain ⟨hat, hAa⟩ := hH.2 a0 _ hc
      refine W.zast hx hb hat ((hK.2.1 2 (by decide)).1 n (fun j => .int (f j))) (fun q => by cases q) (by show ¬ (i < 0 ∨ (arrV _ _ _).slots.size ≤ _); rw [arrV_size]; exact hin) rfl rfl hdg fun H1 e z oq => ?_
      refine kk _ H1 _ hr2 (hH.up hc ?_ z oq) (hS.put z oq hAa)
      show H1[a0]? = some (vp_cell _ _)
      rw [e, mz_nz]
      show some ((vp_cell _ (n, .inl f)).setSlot _ _) = some (vp_cell _ (n, .inl _))
      rw [vp_cell_i, vp_cell_i, arrV_store]
      congr 2
      funext q
      by_cases hq : q = i.toNatClampNeg
      · subst hq
        simp [updV, upd]
      · simp [updV, upd, hq]
    · cases hv
  · cases hv
theorem mz_last (X : mz_X p g own cc nL A s m args c) (hH : mz_R g A h H) (hS : va_S A s.heap H locs) {a : Option Nat} {i : Int32} {x : Int64} (hdg : decode cc pc = .ok (.lastore, 1)) {β : Type} {K : mz_H → Option β} {z : β} (hr : mz_op (mz_sJ h a i x) K = some z)
    (kk : ∀ (h1 : mz_H) (H1 : Heap) (locs1 : List Loc), K h1 = some z → mz_R g A h1 H1 → va_S A s.heap H1 locs1 → W p l e R s m args below meth c H1 locs1 cells slots Q (F0 m (pc + 1) ls rest)) : W p l e R s m args below meth c H locs cells slots Q (F0 m pc ls (.long x :: .int i :: va_rf a :: rest)) := by
  obtain ⟨v, hv, hr2⟩ := mz_op_some hr
  obtain ⟨hx, hb, hml, hown, hts, hK, hZ, hA⟩ := X
  unfold mz_sJ at hv
  split at hv
  · rename_i n f har
    split at hv
    · rename_i hi
      obtain ⟨a0, rfl, hc⟩ := mz_ar_some har
      cases hv
      have hin := mz_ix_in hi
      obtain ⟨hat, hAa⟩ := hH.2 a0 _ hc
      refine W.last hx hb hat ((hK.2.1 1 (by decide)).1 n (fun j => .long (f j))) (fun q => by cases q) (by show ¬ (i < 0 ∨ (arrV _ _ _).slots.size ≤ _); rw [arrV_size]; exact hin) rfl rfl hdg fun H1 e z oq => ?_
      refine kk _ H1 _ hr2 (hH.up hc ?_ z oq) (hS.put z oq hAa)
      show H1[a0]? = some (vp_cell _ _)
      rw [e]
      show some ((vp_cell _ (n, .inr (.inl f))).setSlot _ _) = some (vp_cell _ (n, .inr (.inl _)))
      rw [vp_cell_l, vp_cell_l, arrV_store]
      congr 2
      funext q
      by_cases hq : q = i.toNatClampNeg
      · subst hq
        simp [updV, vp_updL]
      · simp [updV, vp_updL, hq]
    · cases hv
  · cases hv
theorem mz_aast (X : mz_X p g own cc nL A s m args c) (hH : mz_R g A h H) (hS : va_S A s.heap H locs) {a v : Option Nat} {t : Nat} {C : String} {T : u_T} {N : Nat} (ht : t ∈ mz_tags) (hty : mz_ty t = .object C) (hcl : vwCl[t - 10]? = some (C, T, N)) {i : Int32} (hdg : decode cc pc = .ok (.aastore, 1)) {β : Type} {K : mz_H → Option β} {z : β} (hr : mz_op (mz_sR h a t i v) K = some z)
    (kk : ∀ (h1 : mz_H) (H1 : Heap) (locs1 : List Loc), K h1 = some z → mz_R g A h1 H1 → va_S A s.heap H1 locs1 → W p l e R s m args below meth c H1 locs1 cells slots Q (F0 m (pc + 1) ls rest)) : W p l e R s m args below meth c H locs cells slots Q (F0 m pc ls (va_rf v :: .int i :: va_rf a :: rest)) := by
  obtain ⟨w, hv, hr2⟩ := mz_op_some hr
  obtain ⟨hx, hb, hml, hown, hts, hK, hZ, hA⟩ := X
  unfold mz_sR at hv
  split at hv
  · rename_i n f har
    split at hv
    · rename_i hi
      rw [Bool.and_eq_true] at hi
      obtain ⟨hi, hvo⟩ := hi
      obtain ⟨a0, rfl, hc⟩ := mz_ar_some har
      cases hv
      have hin := mz_ix_in hi
      have hlt : i.toNatClampNeg < n := Nat.not_le.mp fun q => hin (Or.inr q)
      have h0 : ¬ i < 0 := fun q => hin (Or.inl q)
      obtain ⟨hat, hAa⟩ := hH.2 a0 _ hc
      have key : ∀ (H1 : Heap), H1[a0]? = some ((vp_cell (g.2.1 t) (n, .inr (.inr (.inr (.inr f))))).setSlot i.toNatClampNeg (va_rf v)) → va_at g.1 vwCl (a0, mz_cv g.2.1 (.inl (t, n, .inr (.inr (.inr (.inr (va_up f i.toNatClampNeg v))))))) H1 := by
        intro H1 e
        show H1[a0]? = some (vp_cell _ _)
        rw [e, vp_cell_q, vp_cell_q, arrV_store]
        congr 2
        funext q
        by_cases hq : q = i.toNatClampNeg
        · subst hq
          simp [updV, va_up]
        · simp [updV, va_up, hq]
      cases v with
      | none =>
        exact va_WaastN (C := C) hx hb hat (by rw [← hty]; exact (hK.2.1 t ht).1 n (fun j => va_rf (f j))) (fun h => by cases h) (by show ¬ (i < 0 ∨ (arrV _ _ _).slots.size ≤ _); rw [arrV_size]; exact hin) rfl rfl hdg fun H1 e z oq =>
          kk _ H1 _ hr2 (hH.up hc (key H1 e) z oq) (hS.put z oq hAa)
      | some b =>
        obtain ⟨b0, vs, hb0, hbc⟩ := mz_is_some (by simpa using hvo)
        cases hb0
        obtain ⟨⟨r', hr', cellV, g1, g2, g3, -⟩, -⟩ := hH.2 b _ hbc
        have hcls := (hK.1.1 (t - 10) _ hcl).2
        have hra := (hK.2.1 t ht).2
        rw [hty] at hra
        obtain ⟨kA, comp, k1, k2, k3, -⟩ := hra
        have hcomp : comp = g.1.1 (t - 10) := Option.some.inj (k3.symm.trans hcls.1)
        subst hcomp
        obtain ⟨kC, hkC, -⟩ := hcls.2
        exact W.aast hx hb hat (fun q h => by cases h) (fun h => by cases h) k1 k2 rfl hkC ⟨h0, by show _ < (arrV _ _ _).slots.size; rw [arrV_size]; exact hlt⟩ g1 (fun q h => by rw [g3] at h; cases h) (by rw [g2]; exact hkC) (by rw [g2]; exact va_assign hcls) rfl rfl hdg fun H1 e z oq =>
          kk _ H1 _ hr2 (hH.up hc (key H1 e) z oq) (hS.put z oq hAa)
    · cases hv
  · cases hv
/-- a new object -/
theorem mz_new (X : mz_X p g own cc nL A s m args c) (hH : mz_R g A h H) (hS : va_S A s.heap H locs) {index ci : Nat} {C : String} {T : u_T} {N : Nat} (tys : Nat → FieldType) (hcl : vwCl[ci]? = some (C, T, N)) (hin : ∀ w ∈ u_ws C T N, w ∈ mz_tbl) (hty : ∀ k, k < N → parseFieldDescriptor (T k).2.2.1 = some (tys k)) (hw : Cond.classLink own index C ∈ mz_tbl ∧ Cond.instantiable C N ∈ mz_tbl ∧ Cond.initialized C ∈ mz_tbl) (fs : List Value) (hfs : ∀ j, j < N → defaultValue (tys j) = vp_V fs j) (hdg : decode cc pc = .ok (.new index, 3)) {dc ds : Nat} (hc : cells + (dc + 1) = R.cells) (hs : slots + (ds + N) = R.slots)
    (kk : ∀ (H1 : Heap), mz_R g A (mz_nw h (.inr (ci, fs))) H1 → va_S A s.heap H1 locs → (cells + 1) + dc = R.cells → (slots + N) + ds = R.slots → W p l e R s m args below meth c H1 locs (cells + 1) (slots + N) Q (F0 m (pc + 3) ls (va_rf (some h.2) :: rest))) : W p l e R s m args below meth c H locs cells slots Q (F0 m pc ls rest) := by
  obtain ⟨hx, hb, hml, hown, hts, hK, hZ, hA⟩ := X
  have hKn := hK.1.1 ci _ hcl
  refine W.newcK hx hb hown (hts _ hw.1) (hts _ hw.2.1) (hts _ hw.2.2) rfl hdg (by omega) (by omega) hKn.2.1 (h := h.2) hH.1 fun H1 kC hkC e1 z1 o1 => ?_
  refine kk H1 (hH.nw (hA _ (by rw [← hH.1]; exact hS.1)) ?_ (by rw [z1, hH.1]) (fun q hq => o1 q (by rw [← hH.1]; exact hq))) (mz_S.nw hS (by rw [z1, hH.1]) (fun q hq => o1 q (by rw [← hH.1]; exact hq))) (by omega) (by omega)
  exact ⟨_, hcl, (u_born tys hts hin hKn hkC e1 hty).to hfs⟩
/-- a new array of ints, longs, booleans -/
theorem mz_newa (X : mz_X p g own cc nL A s m args c) (hH : mz_R g A h H) (hS : va_S A s.heap H locs) {atype : ArrayType} {t : Nat} (ht : t ∈ mz_tags) (hty : newarray.typeOf atype = mz_ty t) (hnr : (mz_ty t).isReference = false) (hb8 : componentBytes (mz_ty t) ≤ 8) (harr : Cond.arrayClass (mz_ty t) ∈ mz_tbl) {n : Int32} {x : (Nat → Int32) ⊕ (Nat → Int64) ⊕ (Nat → UInt32) ⊕ (Nat → UInt64) ⊕ (Nat → Option Nat)} (hxv : ∀ (cA : ClassId) (N : Nat), vp_cell cA (N, x) = arrV cA N (fun _ => defaultValue (mz_ty t))) (hdg : decode cc pc = .ok (.newarray atype, 2)) {β : Type} {K : Option β} {z : β} (hr : mz_chk (decide (0 ≤ n ∧ n.toNatClampNeg ≤ 1000000)) K = some z) {dc ds : Nat} (hc : cells + (dc + 1) = R.cells) (hs : slots + (ds + n.toNatClampNeg) = R.slots)
    (kk : ∀ (H1 : Heap), K = some z → mz_R g A (mz_nw h (.inl (t, n.toNatClampNeg, x))) H1 → va_S A s.heap H1 locs → (cells + 1) + dc = R.cells → (slots + n.toNatClampNeg) + ds = R.slots → W p l e R s m args below meth c H1 locs (cells + 1) (slots + n.toNatClampNeg) Q (F0 m (pc + 2) ls (va_rf (some h.2) :: rest))) : W p l e R s m args below meth c H locs cells slots Q (F0 m pc ls (.int n :: rest)) := by
  obtain ⟨hn, hr2⟩ := mz_chk_some hr
  obtain ⟨hn0, hn1⟩ := of_decide_eq_true hn
  obtain ⟨hx, hb, hml, hown, hts, hK, hZ, hA⟩ := X
  refine va_newaK hx hb (by rw [hty]; exact hts _ harr) rfl hdg rfl (Int32.not_lt.mpr hn0) rfl (by rw [hty]; exact Nat.le_trans (Nat.mul_le_mul hn1 hb8) (by decide)) (by omega) (by omega) (h := h.2) hH.1 fun H1 cA e1 z1 o1 hAr hNm => ?_
  rw [hty] at e1 hAr hNm
  have hcA : cA = g.2.1 t := by
    have h2 := (hK.2.1 t ht).2
    revert h2 hNm hnr
    cases mz_ty t with
    | object C => intro q; cases q
    | _ => intro _ hNm h2; exact Option.some.inj (hNm.symm.trans h2)
  subst hcA
  refine kk H1 hr2 (hH.nw (hA _ (by rw [← hH.1]; exact hS.1)) ?_ (by rw [z1, hH.1]) (fun q hq => o1 q (by rw [← hH.1]; exact hq))) (mz_S.nw hS (by rw [z1, hH.1]) (fun q hq => o1 q (by rw [← hH.1]; exact hq))) (by omega) (by omega)
  show H1[h.2]? = some (vp_cell _ _)
  rw [e1]
  exact congrArg some (hxv _ _).symm
/-- a new array of references -/
theorem mz_anew (X : mz_X p g own cc nL A s m args c) (hH : mz_R g A h H) (hS : va_S A s.heap H locs) {index t : Nat} {C : String} (ht : t ∈ mz_tags) (hty : mz_ty t = .object C) (hC : C ∈ ["MemberScanner$Entry", "MemberScanner$Member", "MemberScanner$Roster", "MemberScanner$Row", "MemberScanner$Slot", "MemberScanner$Thing", "MemberScanner$Type"]) (hcl : Cond.classLink own index C ∈ mz_tbl) {n : Int32} (hdg : decode cc pc = .ok (.anewarray index, 3)) {β : Type} {K : Option β} {z : β} (hr : mz_chk (decide (0 ≤ n ∧ n.toNatClampNeg ≤ 1000000)) K = some z) {dc ds : Nat} (hc : cells + (dc + 1) = R.cells) (hs : slots + (ds + n.toNatClampNeg) = R.slots)
    (kk : ∀ (H1 : Heap), K = some z → mz_R g A (mz_nw h (.inl (t, n.toNatClampNeg, .inr (.inr (.inr (.inr (fun _ => none))))))) H1 → va_S A s.heap H1 locs → (cells + 1) + dc = R.cells → (slots + n.toNatClampNeg) + ds = R.slots → W p l e R s m args below meth c H1 locs (cells + 1) (slots + n.toNatClampNeg) Q (F0 m (pc + 3) ls (va_rf (some h.2) :: rest))) : W p l e R s m args below meth c H locs cells slots Q (F0 m pc ls (.int n :: rest)) := by
  obtain ⟨hn, hr2⟩ := mz_chk_some hr
  obtain ⟨hn0, hn1⟩ := of_decide_eq_true hn
  obtain ⟨hx, hb, hml, hown, hts, hK, hZ, hA⟩ := X
  refine W.anew hx hb hown (hts _ hcl) (va_AO.use (hK.2.2.1 C hC)) rfl hdg rfl (Int32.not_lt.mpr hn0) (by omega) (by omega) (by omega) fun cA kA comp f1 f2 f3 f4 => ?_
  have hcA : cA = g.2.1 t := by
    have h2 := (hK.2.1 t ht).2
    rw [hty] at h2
    obtain ⟨_, _, _, _, _, k4⟩ := h2
    exact Option.some.inj (f1.symm.trans k4)
  subst hcA
  generalize hH1 : H.push ({ cls := g.2.1 t, slots := Array.replicate n.toNatClampNeg .null, vm := .none } : Cell) = H1
  have z1 : H1.size = H.size + 1 := by rw [← hH1, Array.size_push]
  have e1 : H1[H.size]? = some (arrV (g.2.1 t) n.toNatClampNeg (fun _ => .null)) := by rw [← hH1, Array.getElem?_push_size, ← arrV_new]
  have o1 : ∀ q : Nat, q < H.size → H1[q]? = H[q]? := fun q hq => by rw [← hH1, Array.getElem?_push, if_neg (Nat.ne_of_lt hq)]
  rw [hH.1]
  refine kk H1 hr2 (hH.nw (hA _ (by rw [← hH.1]; exact hS.1)) ?_ z1 o1) (mz_S.nw hS z1 o1) (by omega) (by omega)
  show H1[h.2]? = some (vp_cell _ _)
  rw [← hH.1, e1]
  rfl
end MZR

/-! returns, switches, numbers that may not be a number, JDK's members -/
theorem mz_ti {x : Int32} {k : Int} (y : Int32) (hy : y.toInt = k) (h : x.toInt = k) : x = y := Int32.toInt_inj.mp (h.trans hy.symm)
def mz_n64 (r : UInt64) : Bool := decide (r &&& 0x7fffffffffffffff ≤ 0x7ff0000000000000)
def mz_n32 (r : UInt32) : Bool := decide (r &&& 0x7fffffff ≤ 0x7f800000)
def mz_wtA (i : Int32) : Option Int32 := if mz_ix i 9 then some (mz_wt i.toNatClampNeg) else none
def mz_arJ (h : mz_H) (a : Option Nat) : Option (Nat × (Nat → Int64)) := match mz_ar h a 1 with
  | some (n, .inr (.inl f)) => some (n, f)
  | _ => none
theorem mz_arJ_some {h : mz_H} {a : Option Nat} {n : Nat} {f : Nat → Int64} (e : mz_arJ h a = some (n, f)) : ∃ a0, a = some a0 ∧ h.1 a0 = some (.inl (1, n, .inr (.inl f))) := by
  unfold mz_arJ at e
  split at e
  · rename_i n' f' har
    cases e
    exact mz_ar_some har
  · cases e
def mz_cpyJ (h : mz_H) (a : Option Nat) (sp : Int32) (b : Option Nat) (dp n : Int32) : Option mz_H := match mz_arJ h a, mz_arJ h b with
  | some (n0, f), some (n1, g) => if 0 ≤ sp ∧ 0 ≤ dp ∧ 0 ≤ n ∧ sp.toNatClampNeg + n.toNatClampNeg ≤ n0 ∧ dp.toNatClampNeg + n.toNatClampNeg ≤ n1 then mz_sA h b (.inl (1, n1, .inr (.inl (va_cpy f g sp.toNatClampNeg dp.toNatClampNeg n.toNatClampNeg)))) else none
  | _, _ => none
theorem mz_ret_some {α : Type} {v r : α} {h hf : mz_H} {dc ds : Nat} (e : mz_ret v h = some (r, hf, dc, ds)) : v = r ∧ h = hf ∧ dc = 0 ∧ ds = 0 := by
  simp only [mz_ret, Option.some.injEq, Prod.mk.injEq] at e
  exact ⟨e.1, e.2.1, e.2.2.1.symm, e.2.2.2.symm⟩
theorem mz_nrf (C : String) (r : Option Nat) : narrow (.object C) (va_rf r) = va_rf r ∧ fits (.object C) (va_rf r) = true := by cases r <;> exact ⟨rfl, rfl⟩
theorem mz_nra (t : FieldType) (r : Option Nat) : narrow (.array t) (va_rf r) = va_rf r ∧ fits (.array t) (va_rf r) = true := by cases r <;> exact ⟨rfl, rfl⟩
section MZE
variable {p : Program} {l : Launch} {e : Env} {R : Room} {s : State} {m : MethodId} {args : Array Value} {below : List Frame} {meth : Method} {c : Code} {H : Heap} {locs : List Loc} {cells slots : Nat} {Q : State → Prop}
variable {cc : ByteArray} {pc nL : Nat} {ls : Array Slot} {rest : List Value} {g : mz_G} {A : Nat → Prop} {h h0 hf : mz_H} {own nm : String} {DC DS dc ds : Nat}
theorem mz_iret (Y : mz_Y p g own cc nL (some .int) nm (mz_AF h0) s m args meth c) (hdg : decode cc pc = .ok (.ireturn, 1)) (hH : mz_R g (mz_AF h0) h H) (hS : va_S (mz_AF h0) s.heap H locs) (hc : cells + dc = DC) (hs : slots + ds = DS) {v r : Int32} (hr : mz_ret v h = some (r, hf, dc, ds)) : W p l e R s m args below meth c H locs cells slots (MQ below (mz_Q g h0 (some (.int r)) hf) args s DC DS (mz_AF h0)) (F0 m pc ls [.int v]) := by
  obtain ⟨rfl, rfl, rfl, rfl⟩ := mz_ret_some hr
  subst hc
  subst hs
  have hlk := Y.2.2.1
  exact W.iret Y.1.1 Y.1.2.1 Y.2.1 (fun t ht hW => ⟨rfl, by rw [ht]; exact hH, hS.F ht⟩) (fun q hq => hS.2.2 q hq) hdg
theorem mz_lret (Y : mz_Y p g own cc nL (some .long) nm (mz_AF h0) s m args meth c) (hdg : decode cc pc = .ok (.lreturn, 1)) (hH : mz_R g (mz_AF h0) h H) (hS : va_S (mz_AF h0) s.heap H locs) (hc : cells + dc = DC) (hs : slots + ds = DS) {v r : Int64} (hr : mz_ret v h = some (r, hf, dc, ds)) : W p l e R s m args below meth c H locs cells slots (MQ below (mz_Q g h0 (some (.long r)) hf) args s DC DS (mz_AF h0)) (F0 m pc ls [.long v]) := by
  obtain ⟨rfl, rfl, rfl, rfl⟩ := mz_ret_some hr
  subst hc
  subst hs
  have hlk := Y.2.2.1
  exact W.lret Y.1.1 Y.1.2.1 Y.2.1 (fun t ht hW => ⟨rfl, by rw [ht]; exact hH, hS.F ht⟩) (fun q hq => hS.2.2 q hq) hdg
theorem mz_dret (Y : mz_Y p g own cc nL (some .double) nm (mz_AF h0) s m args meth c) (hdg : decode cc pc = .ok (.dreturn, 1)) (hH : mz_R g (mz_AF h0) h H) (hS : va_S (mz_AF h0) s.heap H locs) (hc : cells + dc = DC) (hs : slots + ds = DS) {v r : UInt64} (hr : mz_ret v h = some (r, hf, dc, ds)) : W p l e R s m args below meth c H locs cells slots (MQ below (mz_Q g h0 (some (.double r)) hf) args s DC DS (mz_AF h0)) (F0 m pc ls [.double v]) := by
  obtain ⟨rfl, rfl, rfl, rfl⟩ := mz_ret_some hr
  subst hc
  subst hs
  have hlk := Y.2.2.1
  exact W.dret Y.1.1 Y.1.2.1 Y.2.1 (fun t ht hW => ⟨rfl, by rw [ht]; exact hH, hS.F ht⟩) (fun q hq => hS.2.2 q hq) hdg
theorem mz_zret (Y : mz_Y p g own cc nL (some .boolean) nm (mz_AF h0) s m args meth c) (hdg : decode cc pc = .ok (.ireturn, 1)) (hH : mz_R g (mz_AF h0) h H) (hS : va_S (mz_AF h0) s.heap H locs) (hc : cells + dc = DC) (hs : slots + ds = DS) {v r : Int32} (hr : mz_chk (v &&& 1 == v) (mz_ret v h) = some (r, hf, dc, ds)) : W p l e R s m args below meth c H locs cells slots (MQ below (mz_Q g h0 (some (.int r)) hf) args s DC DS (mz_AF h0)) (F0 m pc ls [.int v]) := by
  obtain ⟨hv, hr⟩ := mz_chk_some hr
  obtain ⟨rfl, rfl, rfl, rfl⟩ := mz_ret_some hr
  subst hc
  subst hs
  have hlk := Y.2.2.1
  exact W.zret Y.1.1 Y.1.2.1 Y.2.1 (by rw [mz_nz, eq_of_beq hv]) (fun t ht hW => ⟨rfl, by rw [ht]; exact hH, hS.F ht⟩) (fun q hq => hS.2.2 q hq) hdg
theorem mz_vret (Y : mz_Y p g own cc nL none nm (mz_AF h0) s m args meth c) (hdg : decode cc pc = .ok (.return_, 1)) (hH : mz_R g (mz_AF h0) h H) (hS : va_S (mz_AF h0) s.heap H locs) (hc : cells + dc = DC) (hs : slots + ds = DS) {r : Unit} (hr : mz_ret () h = some (r, hf, dc, ds)) : W p l e R s m args below meth c H locs cells slots (MQ below (mz_Q g h0 none hf) args s DC DS (mz_AF h0)) (F0 m pc ls []) := by
  obtain ⟨rfl, rfl, rfl, rfl⟩ := mz_ret_some hr
  subst hc
  subst hs
  have hlk := Y.2.2.1
  exact W.vret Y.1.1 Y.1.2.1 Y.2.1 (fun t ht hW => ⟨rfl, by rw [ht]; exact hH, hS.F ht⟩) (fun q hq => hS.2.2 q hq) hdg
theorem mz_aret {C : String} (Y : mz_Y p g own cc nL (some (.object C)) nm (mz_AF h0) s m args meth c) (hdg : decode cc pc = .ok (.areturn, 1)) (hH : mz_R g (mz_AF h0) h H) (hS : va_S (mz_AF h0) s.heap H locs) (hc : cells + dc = DC) (hs : slots + ds = DS) {v r : Option Nat} (hr : mz_ret v h = some (r, hf, dc, ds)) : W p l e R s m args below meth c H locs cells slots (MQ below (mz_Q g h0 (some (va_rf r)) hf) args s DC DS (mz_AF h0)) (F0 m pc ls [va_rf v]) := by
  obtain ⟨rfl, rfl, rfl, rfl⟩ := mz_ret_some hr
  subst hc
  subst hs
  have hlk := Y.2.2.1
  exact W.aret Y.1.1 Y.1.2.1 Y.2.1 (Or.inl ⟨C, rfl⟩) (va_rf_or v) (fun t ht hW => ⟨rfl, by rw [ht]; exact hH, hS.F ht⟩) (fun q hq => hS.2.2 q hq) hdg
theorem mz_tin (X : mz_X p g own cc nL A s m args c) {dflt lo hi : Int} {offs : Array Int} {len : Nat} (hdg : decode cc pc = .ok (.tableswitch dflt lo hi offs, len)) {x v : Int32} (hx : x = v) {off : Int} (tgt : Nat) (h1 : ¬ v.toInt < lo) (h2 : ¬ hi < v.toInt) (ho : offs[(v.toInt - lo).toNat]? = some off) (ht : (pc : Int) + off = (tgt : Int))
    (k : W p l e R s m args below meth c H locs cells slots Q (F0 m tgt ls rest)) : W p l e R s m args below meth c H locs cells slots Q (F0 m pc ls (.int x :: rest)) := by
  subst hx
  exact lv_tableIn X.1 X.2.1 hdg h1 h2 ho ht k
theorem mz_tout (X : mz_X p g own cc nL A s m args c) {dflt lo hi : Int} {offs : Array Int} {len : Nat} (hdg : decode cc pc = .ok (.tableswitch dflt lo hi offs, len)) {x : Int32} (tgt : Nat) (hx : x.toInt < lo ∨ hi < x.toInt) (ht : (pc : Int) + dflt = (tgt : Int))
    (k : W p l e R s m args below meth c H locs cells slots Q (F0 m tgt ls rest)) : W p l e R s m args below meth c H locs cells slots Q (F0 m pc ls (.int x :: rest)) := lv_tableOut X.1 X.2.1 hdg hx ht k
theorem mz_n64_some {r : UInt64} (h : mz_n64 r = true) : vf_n64 r := by
  have h1 : r &&& 0x7fffffffffffffff ≤ 0x7ff0000000000000 := of_decide_eq_true h
  exact h1
theorem mz_n32_some {r : UInt32} (h : mz_n32 r = true) : vf_n32 r := by
  have h1 : r &&& 0x7fffffff ≤ 0x7f800000 := of_decide_eq_true h
  exact h1
theorem mz_dadd (X : mz_X p g own cc nL A s m args c) {x y : UInt64} (hdg : decode cc pc = .ok (.dadd, 1)) {β : Type} {K : Option β} {z : β} (hr : mz_chk (mz_n64 (FP.dadd x y)) K = some z)
    (k : K = some z → W p l e R s m args below meth c H locs cells slots Q (F0 m (pc + 1) ls (.double (FP.dadd x y) :: rest))) : W p l e R s m args below meth c H locs cells slots Q (F0 m pc ls (.double y :: .double x :: rest)) := by
  obtain ⟨hn, hr⟩ := mz_chk_some hr
  exact lv_dadd X.1 X.2.1 hdg (mz_n64_some hn) (k hr)
theorem mz_dsub (X : mz_X p g own cc nL A s m args c) {x y : UInt64} (hdg : decode cc pc = .ok (.dsub, 1)) {β : Type} {K : Option β} {z : β} (hr : mz_chk (mz_n64 (FP.dsub x y)) K = some z)
    (k : K = some z → W p l e R s m args below meth c H locs cells slots Q (F0 m (pc + 1) ls (.double (FP.dsub x y) :: rest))) : W p l e R s m args below meth c H locs cells slots Q (F0 m pc ls (.double y :: .double x :: rest)) := by
  obtain ⟨hn, hr⟩ := mz_chk_some hr
  exact lv_dsub X.1 X.2.1 hdg (mz_n64_some hn) (k hr)
theorem mz_dmul (X : mz_X p g own cc nL A s m args c) {x y : UInt64} (hdg : decode cc pc = .ok (.dmul, 1)) {β : Type} {K : Option β} {z : β} (hr : mz_chk (mz_n64 (FP.dmul x y)) K = some z)
    (k : K = some z → W p l e R s m args below meth c H locs cells slots Q (F0 m (pc + 1) ls (.double (FP.dmul x y) :: rest))) : W p l e R s m args below meth c H locs cells slots Q (F0 m pc ls (.double y :: .double x :: rest)) := by
  obtain ⟨hn, hr⟩ := mz_chk_some hr
  exact lv_dmul X.1 X.2.1 hdg (mz_n64_some hn) (k hr)
theorem mz_f2d (X : mz_X p g own cc nL A s m args c) {x : UInt32} (hdg : decode cc pc = .ok (.f2d, 1)) {β : Type} {K : Option β} {z : β} (hr : mz_chk (mz_n64 (FP.f2d x)) K = some z)
    (k : K = some z → W p l e R s m args below meth c H locs cells slots Q (F0 m (pc + 1) ls (.double (FP.f2d x) :: rest))) : W p l e R s m args below meth c H locs cells slots Q (F0 m pc ls (.float x :: rest)) := by
  obtain ⟨hn, hr⟩ := mz_chk_some hr
  exact lv_f2d X.1 X.2.1 hdg (mz_n64_some hn) (k hr)
theorem mz_d2f (X : mz_X p g own cc nL A s m args c) {x : UInt64} (hdg : decode cc pc = .ok (.d2f, 1)) {β : Type} {K : Option β} {z : β} (hr : mz_chk (mz_n32 (FP.d2f x)) K = some z)
    (k : K = some z → W p l e R s m args below meth c H locs cells slots Q (F0 m (pc + 1) ls (.float (FP.d2f x) :: rest))) : W p l e R s m args below meth c H locs cells slots Q (F0 m pc ls (.double x :: rest)) := by
  obtain ⟨hn, hr⟩ := mz_chk_some hr
  exact lv_d2f X.1 X.2.1 hdg (mz_n32_some hn) (k hr)
theorem mz_lrem (X : mz_X p g own cc nL A s m args c) {x y : Int64} (hdg : decode cc pc = .ok (.lrem, 1)) {β : Type} {K : Option β} {z : β} (hr : mz_chk (decide (¬ y = 0)) K = some z)
    (k : K = some z → W p l e R s m args below meth c H locs cells slots Q (F0 m (pc + 1) ls (.long (x - x / y * y) :: rest))) : W p l e R s m args below meth c H locs cells slots Q (F0 m pc ls (.long y :: .long x :: rest)) := by
  obtain ⟨hn, hr⟩ := mz_chk_some hr
  exact lv_lrem X.1 X.2.1 hdg (of_decide_eq_true hn) (k hr)
theorem mz_l2dN (X : mz_X p g own cc nL A s m args c) (hls : ls.size = nL) {index : Nat} (hw : Cond.methodLink own index ⟨"java/lang/Double", "longBitsToDouble", "(J)D"⟩ ∈ mz_tbl ∧ Cond.native ⟨"java/lang/Double", "longBitsToDouble", "(J)D"⟩ ∈ mz_tbl ∧ Cond.static ⟨"java/lang/Double", "longBitsToDouble", "(J)D"⟩ ∈ mz_tbl ∧ Cond.initialized "java/lang/Double" ∈ mz_tbl) {b : Int64} (hrest : rest.length ≤ 4) (hR : 1 ≤ R.frames ∧ 23 ≤ R.locals) (hdg : decode cc pc = .ok (.invokestatic index, 3)) {β : Type} {K : Option β} {z : β} (hr : mz_chk (!vn_snl2d b) K = some z)
    (k : K = some z → W p l e R s m args below meth c H locs cells slots Q (F0 m (pc + 3) ls (.double b.toUInt64 :: rest))) : W p l e R s m args below meth c H locs cells slots Q (F0 m pc ls (.long b :: rest)) := by
  obtain ⟨hn, hr⟩ := mz_chk_some hr
  obtain ⟨hx, hb, hml, hown, hts, hK, hZ, hA⟩ := X
  have h4 := mz_rest rest hrest
  exact vn_l2d hx hb (hml.trans hls.symm) hown (hts _ hw.1) (hts _ hw.2.1) (hts _ hw.2.2.1) (hts _ hw.2.2.2) (by simpa using hn) hR.1 (by omega) hdg (k hr)
theorem mz_d2lN (X : mz_X p g own cc nL A s m args c) (hls : ls.size = nL) {index : Nat} (hw : Cond.methodLink own index ⟨"java/lang/Double", "doubleToRawLongBits", "(D)J"⟩ ∈ mz_tbl ∧ Cond.native ⟨"java/lang/Double", "doubleToRawLongBits", "(D)J"⟩ ∈ mz_tbl ∧ Cond.static ⟨"java/lang/Double", "doubleToRawLongBits", "(D)J"⟩ ∈ mz_tbl ∧ Cond.initialized "java/lang/Double" ∈ mz_tbl) {b : UInt64} (hrest : rest.length ≤ 4) (hR : 1 ≤ R.frames ∧ 23 ≤ R.locals) (hdg : decode cc pc = .ok (.invokestatic index, 3))
    (k : W p l e R s m args below meth c H locs cells slots Q (F0 m (pc + 3) ls (.long b.toInt64 :: rest))) : W p l e R s m args below meth c H locs cells slots Q (F0 m pc ls (.double b :: rest)) := by
  obtain ⟨hx, hb, hml, hown, hts, hK, hZ, hA⟩ := X
  have h4 := mz_rest rest hrest
  exact vn_d2l hx hb (hml.trans hls.symm) hown (hts _ hw.1) (hts _ hw.2.1) (hts _ hw.2.2.1) (hts _ hw.2.2.2) hR.1 (by omega) hdg k
theorem mz_max (X : mz_X p g own cc nL A s m args c) (hls : ls.size = nL) {index : Nat} (hw : Cond.methodLink own index Lib.Math.max.name ∈ mz_tbl ∧ Cond.static Lib.Math.max.name ∈ mz_tbl ∧ Cond.initialized "java/lang/Math" ∈ mz_tbl ∧ Cond.code Lib.Math.max.name Lib.Math.max.code 2 (some .int) ∈ mz_tbl) (hrest : rest.length ≤ 4) (hR : 1 ≤ R.frames ∧ 21 ≤ R.locals) (hc : cells + dc = R.cells) (hs : slots + ds = R.slots) {x y : Int32} (hdg : decode cc pc = .ok (.invokestatic index, 3))
    (k : W p l e R s m args below meth c H locs cells slots Q (F0 m (pc + 3) ls (.int (if x < y then y else x) :: rest))) : W p l e R s m args below meth c H locs cells slots Q (F0 m pc ls (.int y :: .int x :: rest)) := by
  obtain ⟨hx, hb, hml, hown, hts, hK, hZ, hA⟩ := X
  have h4 := mz_rest rest hrest
  exact va_mmax hx hb (hml.trans hls.symm) hown (hts _ hw.1) (hts _ hw.2.1) (hts _ hw.2.2.1) (hts _ hw.2.2.2) hR.1 (by omega) (by omega) (by omega) hdg k
theorem mz_oinit (X : mz_X p g own cc nL A s m args c) (hls : ls.size = nL) {index : Nat} (hw : Cond.methodLink own index objectInit ∈ mz_tbl ∧ Cond.instanceMethod objectInit ∈ mz_tbl ∧ Cond.code objectInit ⟨#[0xb1]⟩ 1 none ∈ mz_tbl) {a : Option Nat} (hrest : rest.length ≤ 4) (hR : 1 ≤ R.frames ∧ 20 ≤ R.locals) (hdg : decode cc pc = .ok (.invokespecial index, 3)) {β : Type} {K : Option β} {z : β} (hr : mz_chk a.isSome K = some z)
    (k : K = some z → W p l e R s m args below meth c H locs cells slots Q (F0 m (pc + 3) ls rest)) : W p l e R s m args below meth c H locs cells slots Q (F0 m pc ls (va_rf a :: rest)) := by
  obtain ⟨hn, hr⟩ := mz_chk_some hr
  obtain ⟨hx, hb, hml, hown, hts, hK, hZ, hA⟩ := X
  have h4 := mz_rest rest hrest
  cases a with
  | none => cases hn
  | some a => exact W.objInit hx hb hown (hts _ hw.1) (hts _ hw.2.1) (hts _ hw.2.2) rfl (hls.trans hml.symm) rfl hdg hR.1 (by show 2 * 0 + _ + 12 ≤ _; omega) (k hr)
theorem mz_ldc (X : mz_X p g own cc nL A s m args c) {index : Nat} {v : Int32} (hw : Cond.constant own index v ∈ mz_tbl) (hdg : decode cc pc = .ok (.ldc index, 2)) (k : W p l e R s m args below meth c H locs cells slots Q (F0 m (pc + 2) ls (.int v :: rest))) : W p l e R s m args below meth c H locs cells slots Q (F0 m pc ls rest) := lv_ldc X.1 X.2.1 X.2.2.2.1 (X.2.2.2.2.1 _ hw) hdg k
theorem mz_ldc2 (X : mz_X p g own cc nL A s m args c) {index : Nat} {v : Int64} (hw : Cond.constantLong own index v ∈ mz_tbl) (hdg : decode cc pc = .ok (.ldc2_w index, 3)) (k : W p l e R s m args below meth c H locs cells slots Q (F0 m (pc + 3) ls (.long v :: rest))) : W p l e R s m args below meth c H locs cells slots Q (F0 m pc ls rest) := lv_ldc2 X.1 X.2.1 X.2.2.2.1 (X.2.2.2.2.1 _ hw) hdg k
theorem mz_ldc2d (X : mz_X p g own cc nL A s m args c) {index : Nat} {v : UInt64} (hw : Cond.constantDouble own index v ∈ mz_tbl) (hdg : decode cc pc = .ok (.ldc2_w index, 3)) (k : W p l e R s m args below meth c H locs cells slots Q (F0 m (pc + 3) ls (.double v :: rest))) : W p l e R s m args below meth c H locs cells slots Q (F0 m pc ls rest) := lv_ldc2d X.1 X.2.1 X.2.2.2.1 (X.2.2.2.2.1 _ hw) hdg k
theorem mz_gst (X : mz_X p g own cc nL A s m args c) (hS : va_S A s.heap H locs) {index : Nat} (hw : Cond.fieldLink own index "MemberScanner$Numbers" "WIDENED_TO" "[I" ∈ mz_tbl) (hdg : decode cc pc = .ok (.getstatic index, 3)) (k : W p l e R s m args below meth c H locs cells slots Q (F0 m (pc + 3) ls (.ref g.2.2 :: rest))) : W p l e R s m args below meth c H locs cells slots Q (F0 m pc ls rest) := by
  obtain ⟨hx, hb, hml, hown, hts, hK, hZ, hA⟩ := X
  exact va_gets hx hb hZ.1 hS hown (hts _ hw) (fun _ h => h) hdg k
theorem mz_glen (X : mz_X p g own cc nL A s m args c) (hS : va_S A s.heap H locs) (hdg : decode cc pc = .ok (.arraylength, 1)) (k : W p l e R s m args below meth c H locs cells slots Q (F0 m (pc + 1) ls (.int 9 :: rest))) : W p l e R s m args below meth c H locs cells slots Q (F0 m pc ls (.ref g.2.2 :: rest)) := by
  obtain ⟨hx, hb, hml, hown, hts, hK, hZ, hA⟩ := X
  exact va_tlen hx hb hZ.2 hS rfl hdg k
theorem mz_gald (X : mz_X p g own cc nL A s m args c) (hS : va_S A s.heap H locs) {i : Int32} (hdg : decode cc pc = .ok (.iaload, 1)) {β : Type} {K : Int32 → Option β} {z : β} (hr : mz_op (mz_wtA i) K = some z) (k : ∀ v : Int32, K v = some z → W p l e R s m args below meth c H locs cells slots Q (F0 m (pc + 1) ls (.int v :: rest))) : W p l e R s m args below meth c H locs cells slots Q (F0 m pc ls (.int i :: .ref g.2.2 :: rest)) := by
  obtain ⟨v, hv, hr2⟩ := mz_op_some hr
  obtain ⟨hx, hb, hml, hown, hts, hK, hZ, hA⟩ := X
  unfold mz_wtA at hv
  split at hv
  · rename_i hi
    cases hv
    exact va_ti hx hb hZ.2 hS (mz_ix_in hi) rfl hdg (k _ hr2)
  · cases hv
theorem mz_cast (X : mz_X p g own cc nL A s m args c) (hH : mz_R g A h H) {index : Nat} (hw : Cond.classLink own index "[J" ∈ mz_tbl) {a : Option Nat} (hdg : decode cc pc = .ok (.checkcast index, 3)) {β : Type} {K : Option β} {z : β} (hr : mz_chk (mz_arJ h a).isSome K = some z)
    (k : K = some z → W p l e R s m args below meth c H locs cells slots Q (F0 m (pc + 3) ls (va_rf a :: rest))) : W p l e R s m args below meth c H locs cells slots Q (F0 m pc ls (va_rf a :: rest)) := by
  obtain ⟨hn, hr2⟩ := mz_chk_some hr
  obtain ⟨hx, hb, hml, hown, hts, hK, hZ, hA⟩ := X
  obtain ⟨x, hx0⟩ := Option.isSome_iff_exists.mp hn
  obtain ⟨n, f⟩ := x
  obtain ⟨a0, rfl, hc⟩ := mz_arJ_some hx0
  exact va_castA (D := g.1) (cl := vwCl) (ws := [(a0, .inl (g.2.1 1, n, .inr (.inl f)))]) hx hb hown (hts _ hw) (fun j q hj => by
      have hz : j < 1 := (List.getElem?_eq_some_iff.mp hj).1
      rw [show j = 0 by omega] at hj
      cases hj
      exact (hH.2 a0 _ hc).1) 0 rfl (hK.2.1 1 (by decide)).2 hdg (k hr2)
end MZE

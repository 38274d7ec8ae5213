/-! clone of an array of longs; System.arraycopy over arrays of longs -/
section MZF
variable {p : Program} {l : Launch} {e : Env} {R : Room} {s : State} {m : MethodId} {args : Array Value} {below : List Frame} {meth : Method} {c : Code} {H : Heap} {locs : List Loc} {cells slots : Nat} {Q : State → Prop}
variable {cc : ByteArray} {pc nL : Nat} {ls : Array Slot} {rest : List Value} {g : mz_G} {A : Nat → Prop} {h h0 hf : mz_H} {own nm : String} {DC DS dc ds : Nat}
theorem mz_clone (X : mz_X p g own cc nL A s m args c) (hH : mz_R g A h H) (hS : va_S A s.heap H locs) (hls : ls.size = nL) {index : Nat} (hw : Cond.methodLink own index ⟨"[J", "clone", "()Ljava/lang/Object;"⟩ ∈ mz_tbl ∧ Cond.sameMethod "[J" "java/lang/Object" "clone" "()Ljava/lang/Object;" ∈ mz_tbl ∧ Cond.native ⟨"java/lang/Object", "clone", "()Ljava/lang/Object;"⟩ ∈ mz_tbl ∧ Cond.instanceMethod ⟨"java/lang/Object", "clone", "()Ljava/lang/Object;"⟩ ∈ mz_tbl ∧ Cond.selects "[J" ⟨"[J", "clone", "()Ljava/lang/Object;"⟩ ⟨"java/lang/Object", "clone", "()Ljava/lang/Object;"⟩ ∈ mz_tbl) {a : Option Nat} {n : Nat} {f : Nat → Int64} (ha : mz_arJ h a = some (n, f)) (hrest : rest.length ≤ 4) (hR : 1 ≤ R.frames ∧ 22 ≤ R.locals) (hdg : decode cc pc = .ok (.invokevirtual index, 3)) {dc ds : Nat} (hc : cells + (dc + 1) = R.cells) (hs : slots + (ds + n) = R.slots)
    (kk : ∀ (H1 : Heap), mz_R g A (mz_nw h (.inl (1, n, .inr (.inl f)))) H1 → va_S A s.heap H1 locs → (cells + 1) + dc = R.cells → (slots + n) + ds = R.slots → W p l e R s m args below meth c H1 locs (cells + 1) (slots + n) Q (F0 m (pc + 3) ls (va_rf (some h.2) :: rest))) : W p l e R s m args below meth c H locs cells slots Q (F0 m pc ls (va_rf a :: rest)) := by
  obtain ⟨hx, hb, hml, hown, hts, hK, hZ, hA⟩ := X
  obtain ⟨a0, rfl, hcell⟩ := mz_arJ_some ha
  have h4 := mz_rest rest hrest
  have hvc : vp_cell (g.2.1 1) (n, .inr (.inl f)) = arrV (g.2.1 1) n (fun j => .long (f j)) := rfl
  have hsz : (vp_cell (g.2.1 1) (n, .inr (.inl f))).slots.size = n := arrV_size _ _ _
  have hcl0 : (vp_cell (g.2.1 1) (n, .inr (.inl f))).cls = g.2.1 1 := rfl
  have hnm : s.vm.findClass "[J" = some (g.2.1 1) := (hK.2.1 1 (by decide)).2
  obtain ⟨c0, t0', f1, f2, f3⟩ := Cond.castable_spec (va_Nw.use (A := args) rfl hK.2.2.2.2.2.2)
  cases hnm.symm.trans f1
  intro T hT XX
  have hcellT : T.heap[a0]? = some (vp_cell (g.2.1 1) (n, .inr (.inl f))) := by rw [hT]; exact (hH.2 a0 _ hcell).1
  obtain ⟨-, kA, hkA, comp, hkind⟩ := State.isArrayOf_alike XX.warmed.alike ((hK.2.1 1 (by decide)).1 0 (fun _ => .null))
  obtain ⟨-, kS, hkS, compS, hkindS⟩ := (hK.2.1 1 (by decide)).1 0 (fun _ => .null)
  obtain ⟨vm', X', st⟩ := XX.cloneArray hx hown (hts _ hw.1) (hts _ hw.2.1) (hts _ hw.2.2.1) (hts _ hw.2.2.2.1) (hts _ hw.2.2.2.2) (a := a0) (cell := vp_cell (g.2.1 1) (n, .inr (.inl f))) hcellT (fun k h => by cases h) (fun h => by cases h) hnm f2 f3
    (fun i v hv => by
      have hk' : T.vm.classes[g.2.1 1]? = some kA := hkA
      have hv2 : fits .long v = true := by
        have hlt := (Array.getElem?_eq_some_iff.mp hv).1
        rw [hsz] at hlt
        rw [hvc, arrV_read _ _ hlt] at hv
        cases hv
        rfl
      have hkind' : kA.kind = .array comp .long := hkind
      simpa [State.fitsSlot, State.slotType?, hcl0, hk', hkind'] using hv2)
    (g := F0 m pc ls (.ref a0 :: rest)) rfl (by rw [hml]; exact hls) rfl (by rw [hb]; exact hdg) hR.1 (by show 2 * 0 + _ + 14 ≤ _; omega) (by omega) (by rw [hsz]; omega) (hloader := Vm.clonesLoader_of_array hkS hkindS)
  have hcellE : ({ cls := (vp_cell (g.2.1 1) (n, .inr (.inl f))).cls, slots := (vp_cell (g.2.1 1) (n, .inr (.inl f))).slots } : Cell) = vp_cell (g.2.1 1) (n, .inr (.inl f)) := rfl
  rw [hcellE, hsz] at X'
  generalize hH1 : H.push (vp_cell (g.2.1 1) (n, .inr (.inl f))) = H1
  have z1 : H1.size = H.size + 1 := by rw [← hH1, Array.size_push]
  have e1 : H1[H.size]? = some (vp_cell (g.2.1 1) (n, .inr (.inl f))) := by rw [← hH1, Array.getElem?_push_size]
  have o1 : ∀ q : Nat, q < H.size → H1[q]? = H[q]? := fun q hq => by rw [← hH1, Array.getElem?_push, if_neg (Nat.ne_of_lt hq)]
  obtain ⟨t, b1, b2⟩ := kk H1 (hH.nw (hA _ (by rw [← hH.1]; exact hS.1)) (by show H1[h.2]? = some (vp_cell _ _); rw [← hH.1]; exact e1) z1 o1) (mz_S.nw hS z1 o1) (by omega) (by omega) ((T.setVm vm').pushCell (vp_cell (g.2.1 1) (n, .inr (.inl f)))) (by rw [← hH1, ← hT]; rfl) X'
  refine ⟨t, st t ?_, b2⟩
  rw [hcellE, hT, hH.1]
  exact b1
theorem mz_copy (X : mz_X p g own cc nL A s m args c) (hH : mz_R g A h H) (hS : va_S A s.heap H locs) (hls : ls.size = nL) {index : Nat} (hw : Cond.methodLink own index arraycopyName ∈ mz_tbl ∧ Cond.native arraycopyName ∈ mz_tbl ∧ Cond.static arraycopyName ∈ mz_tbl ∧ Cond.initialized "java/lang/System" ∈ mz_tbl) {a b : Option Nat} {sp dp n : Int32} (hrest : rest.length ≤ 4) (hR : 1 ≤ R.frames ∧ 8 + (nativeFrameWords "java/lang/System" "arraycopy" 5 + 11) ≤ R.locals) (hdg : decode cc pc = .ok (.invokestatic index, 3)) {β : Type} {K : mz_H → Option β} {z : β} (hr : mz_op (mz_cpyJ h a sp b dp n) K = some z)
    (kk : ∀ (h1 : mz_H) (H1 : Heap) (locs1 : List Loc), K h1 = some z → mz_R g A h1 H1 → va_S A s.heap H1 locs1 → W p l e R s m args below meth c H1 locs1 cells slots Q (F0 m (pc + 3) ls rest)) : W p l e R s m args below meth c H locs cells slots Q (F0 m pc ls (.int n :: .int dp :: va_rf b :: .int sp :: va_rf a :: rest)) := by
  obtain ⟨h1, hv, hr2⟩ := mz_op_some hr
  obtain ⟨hx, hb, hml, hown, hts, hK, hZ, hA⟩ := X
  have h4 := mz_rest rest hrest
  unfold mz_cpyJ at hv
  split at hv
  case h_2 => cases hv
  rename_i n0 f n1 f' ha hbb
  split at hv
  case isFalse => cases hv
  rename_i hcond
  obtain ⟨c1, c2, c3, c4, c5⟩ := hcond
  obtain ⟨a0, rfl, hca⟩ := mz_arJ_some ha
  obtain ⟨b0, rfl, hcb⟩ := mz_arJ_some hbb
  cases hv
  have nn : ∀ z : Int32, 0 ≤ z → z.toInt = ((z.toNatClampNeg : Nat) : Int) := by
    intro z hz
    have hz0 : (0 : Int) ≤ z.toInt := by simpa using Int32.le_iff_toInt_le.mp hz
    show z.toInt = ((z.toInt.toNat : Nat) : Int)
    omega
  intro T hT XX
  have hc0 : H[a0]? = some (vp_cell (g.2.1 1) (n0, .inr (.inl f))) := (hH.2 a0 _ hca).1
  have hc1 : H[b0]? = some (vp_cell (g.2.1 1) (n1, .inr (.inl f'))) := (hH.2 b0 _ hcb).1
  have hAb := (hH.2 b0 _ hcb).2
  obtain ⟨-, k0, hk0, cm0, hkk0⟩ := (hK.2.1 1 (by decide)).1 n0 (fun j => .long (f j))
  obtain ⟨-, k1, hk1, cm1, hkk1⟩ := (hK.2.1 1 (by decide)).1 n1 (fun j => .long (f' j))
  obtain ⟨vm', X', step⟩ := XX.arraycopy hx hown (hts _ hw.1) (hts _ hw.2.1) (hts _ hw.2.2.1) (hts _ hw.2.2.2) (src := a0) (dst := b0) (cs := vp_cell (g.2.1 1) (n0, .inr (.inl f))) (cd := vp_cell (g.2.1 1) (n1, .inr (.inl f'))) (srcPos := sp) (destPos := dp) (n := n) (by rw [hT]; exact hc0) (by rw [hT]; exact hc1)
    (fun _ h => by cases h) (fun _ h => by cases h) (fun h => by cases h) (fun h => by cases h) hk0 hk1 hkk0 hkk1 (by simp [mz_ty, refKind]) (Int32.not_lt.mpr c1) (Int32.not_lt.mpr c2) (Int32.not_lt.mpr c3)
    (by rw [nn sp c1, nn n c3]; show ¬ _ > ((arrV (g.2.1 1) n0 (fun j => .long (f j))).slots.size : Int); rw [arrV_size]; omega)
    (by rw [nn dp c2, nn n c3]; show ¬ _ > ((arrV (g.2.1 1) n1 (fun j => .long (f' j))).slots.size : Int); rw [arrV_size]; omega)
    (fun vm₁ _ i hi => by
      have e : (vp_cell (g.2.1 1) (n0, .inr (.inl f))).slots.getD (sp.toNatClampNeg + i) .null = .long (f (sp.toNatClampNeg + i)) := by
        show (arrV (g.2.1 1) n0 (fun j => .long (f j))).slots.getD _ _ = _
        rw [Array.getD_eq_getD_getElem?, arrV_read _ _ (by omega)]
        rfl
      refine ⟨?_, ?_⟩
      · rw [e]
        rfl
      · rw [e]
        exact trivial)
    (g := F0 m pc ls (.int n :: .int dp :: .ref b0 :: .int sp :: .ref a0 :: rest)) rfl (by rw [hml]; exact hls) (rest := rest) rfl (by rw [hb]; exact hdg) hR.1 (by show 2 * 0 + _ + _ ≤ _; omega)
  have e1 : copied (vp_cell (g.2.1 1) (n0, .inr (.inl f))) (vp_cell (g.2.1 1) (n1, .inr (.inl f'))) sp dp n = vp_cell (g.2.1 1) (n1, .inr (.inl (va_cpy f f' sp.toNatClampNeg dp.toNatClampNeg n.toNatClampNeg))) := va_copied (fun z => .long z) (g.2.1 1) (g.2.1 1) f f' c4
  rw [e1] at X' step
  have hl : b0 < H.size := (Array.getElem?_eq_some_iff.mp hc1).1
  have hheap : ((T.setVm vm').setCell b0 (vp_cell (g.2.1 1) (n1, .inr (.inl (va_cpy f f' sp.toNatClampNeg dp.toNatClampNeg n.toNatClampNeg))))).heap = H.setIfInBounds b0 (vp_cell (g.2.1 1) (n1, .inr (.inl (va_cpy f f' sp.toNatClampNeg dp.toNatClampNeg n.toNatClampNeg)))) := by rw [← hT]; rfl
  have oq : ∀ q : Nat, q ≠ b0 → (H.setIfInBounds b0 (vp_cell (g.2.1 1) (n1, .inr (.inl (va_cpy f f' sp.toNatClampNeg dp.toNatClampNeg n.toNatClampNeg)))))[q]? = H[q]? := fun q hq => by simp [Array.getElem?_setIfInBounds, Ne.symm hq]
  obtain ⟨t, a1, b1⟩ := kk _ _ _ hr2 (hH.up hcb (show (H.setIfInBounds b0 _)[b0]? = some _ by simp [Array.getElem?_setIfInBounds, hl, mz_cv]) (by simp) oq) ⟨by simp; exact hS.1, fun q g1 g2 => by
      rw [oq q (fun e => g2 (by rw [e]; exact hAb))]
      exact hS.2.1 q g1 g2, fun q hq => by
      rcases List.mem_append.mp hq with h | h
      · exact hS.2.2 q h
      · obtain ⟨z, -, hz⟩ := List.mem_map.mp h
        rw [← hz]
        exact hAb⟩ _ hheap X'
  exact ⟨t, step t a1, b1⟩
end MZF

/-! the law: two worlds side by side in the machine's heap -/
theorem mz_R.part {g : mz_G} {A : Nat → Prop} {h h2 : mz_H} {H : Heap} (hR : mz_R g A h H) (hz : h2.2 = h.2) (hs : ∀ a e, h2.1 a = some e → h.1 a = some e) : mz_R g A h2 H := ⟨hR.1.trans hz.symm, fun a e he => hR.2 a e (hs a e he)⟩
def mz_dj (h h2 : mz_H) : Prop := ∀ (a : Nat) (e e' : mz_E), h.1 a = some e → h2.1 a = some e' → False
section
variable {p : Program} {l : Launch} {e : Env} {R : Room} {s : State} {m : MethodId} {args : Array Value} {below : List Frame} {meth : Method} {c : Code} {H : Heap} {locs : List Loc} {cells slots : Nat} {Q : State → Prop}
variable {cc : ByteArray} {pc nL : Nat} {ls : Array Slot} {rest : List Value} {g : mz_G} {A : Nat → Prop} {h : mz_H} {own : String}
theorem mz_run2 {st0 : List Value} {k n : Nat} {rv : Option Value} {h' h2 : mz_H} {a : Array Value} (X : mz_X p g own cc nL A s m args c) (hH : mz_R g A h H) (hH2 : mz_R g A h2 H) (hD : mz_dj h h2) (hS : va_S A s.heap H locs) (hr : va_Run p l e R s m args below meth c H locs cells slots k n (F0 m pc ls st0) rest (mz_Q g h rv h' a) (mz_AF h))
    (kk : ∀ (H1 : Heap) (locs1 : List Loc), mz_R g A h' H1 → mz_R g A (h2.1, h'.2) H1 → mz_dj h' (h2.1, h'.2) → va_S A s.heap H1 locs1 → W p l e R s m args below meth c H1 locs1 (cells + k) (slots + n) Q (F0 m (pc + 3) ls (rv.toList ++ rest))) : W p l e R s m args below meth c H locs cells slots Q (F0 m pc ls st0) := by
  obtain ⟨hx, hb, hml, hown, hts, hK, hZ, hA⟩ := X
  have hn : ∀ q, mz_AF h q → A q := fun q hq => by
    rcases hq with ⟨e, he⟩ | hq
    · exact (hH.2 q e he).2
    · exact hA q (Nat.le_trans hS.1 (by rw [hH.1]; exact hq))
  have hno : ∀ a e, h2.1 a = some e → ¬ mz_AF h a := fun a e he z => by
    rcases z with ⟨e', he'⟩ | z
    · exact hD a e' e he' he
    · have := (hH2.2 a e he).1.lt
      rw [hH.1] at this
      omega
  intro T hT X
  obtain ⟨v, st₀, t, T', L, h0, X', hL, e1, e2, ⟨hv, hRR, hz, hk⟩, st⟩ := hr T hT X
  cases hv
  rw [h0] at hz hk
  obtain ⟨t2, a1, b1⟩ := kk T'.heap (locs ++ L) (by rw [e1]; exact hRR.weak hn)
    ⟨by rw [e1]; exact hRR.1, fun a e he => ⟨(hH2.2 a e he).1.kept (by rw [e1]; exact hk a (hH2.2 a e he).1.lt (hno a e he)), (hH2.2 a e he).2⟩⟩
    (fun a e e' he he' => hno a e' he' (hRR.2 a e he).2)
    ⟨Nat.le_trans hS.1 (by rw [e1]; exact hz), fun q h1 h2 => by rw [e1, hk q (Nat.lt_of_lt_of_le h1 hS.1) (fun z => h2 (hn q z))]; exact hS.2.1 q h1 h2, fun q hq => by
      rcases List.mem_append.mp hq with h | h
      · exact hS.2.2 q h
      · exact hn _ (hL q h)⟩ T' rfl X'
  exact ⟨t2, st t2 a1, b1⟩
end
/-- the two worlds -/
def lw_J (g : mz_G) (s : State) (q : Nat) (rs : mz_RS) (h : mz_H) (H : Heap) (locs : List Loc) : Prop := mz_R g (fun q : Nat => s.heap.size ≤ q) h H ∧ mz_R g (fun q : Nat => s.heap.size ≤ q) (mz_RH q h.2 rs) H ∧ mz_dj h (mz_RH q h.2 rs) ∧ va_S (fun q : Nat => s.heap.size ≤ q) s.heap H locs
/-- between two calls of the law; k: how many may come -/
def lw_I (g : mz_G) (s : State) (VB o q k : Nat) (rs : mz_RS) (h : mz_H) (H : Heap) (locs : List Loc) (cells slots : Nat) : Prop := mz_In VB o k rs h ∧ lw_J g s q rs h H locs ∧ cells + 40 * k + 1100 * (60 - (rs.1 32).toNatClampNeg) ≤ 600000 ∧ slots + 700 * k + 16000 * (60 - (rs.1 32).toNatClampNeg) ≤ 7302250
theorem mz_In.m60 {VB o k : Nat} {rs : mz_RS} {h : mz_H} (H : mz_In VB o k rs h) : (rs.1 32).toNatClampNeg ≤ 60 := by
  obtain ⟨n, m, ad, lv, mk, mm, gi, go, gj, h1, h2, h3, h4, h5, h6, h7, h8, h9⟩ := H
  have := h4.1
  rw [h4.2.1, cl_nI (by omega)]
  exact this
theorem lw_bud {g : mz_G} {s : State} {VB o q k kk n : Nat} {rs rs' : mz_RS} {h h' : mz_H} {H : Heap} {locs : List Loc} {cells slots : Nat} (I : lw_I g s VB o q (k + 1) rs h H locs cells slots) (I' : mz_In VB o k rs' h') (z2 : (rs.1 32).toNatClampNeg ≤ (rs'.1 32).toNatClampNeg) (z3 : kk ≤ 40 + 1100 * ((rs'.1 32).toNatClampNeg - (rs.1 32).toNatClampNeg)) (z4 : n ≤ 700 + 16000 * ((rs'.1 32).toNatClampNeg - (rs.1 32).toNatClampNeg)) : cells + kk ≤ 600000 ∧ slots + n ≤ 7302250 := by
  have h1 := I.1.m60
  have h2 := I'.m60
  have h3 := I.2.2.1
  have h4 := I.2.2.2
  omega
theorem lw_next {g : mz_G} {s : State} {VB o q k kk n : Nat} {rs rs' : mz_RS} {h h' : mz_H} {H H2 : Heap} {locs locs2 : List Loc} {cells slots : Nat} (I : lw_I g s VB o q (k + 1) rs h H locs cells slots) (I' : mz_In VB o k rs' h') (z2 : (rs.1 32).toNatClampNeg ≤ (rs'.1 32).toNatClampNeg) (z3 : kk ≤ 40 + 1100 * ((rs'.1 32).toNatClampNeg - (rs.1 32).toNatClampNeg)) (z4 : n ≤ 700 + 16000 * ((rs'.1 32).toNatClampNeg - (rs.1 32).toNatClampNeg)) (J : lw_J g s q rs' h' H2 locs2) : lw_I g s VB o q k rs' h' H2 locs2 (cells + kk + 0) (slots + n + 0) := by
  have h1 := I.1.m60
  have h2 := I'.m60
  have h3 := I.2.2.1
  have h4 := I.2.2.2
  exact ⟨I', J, by omega, by omega⟩
section
variable {p : Program} {l : Launch} {e : Env} {s : State} {m : MethodId} {below : List Frame} {meth : Method} {c : Code} {H : Heap} {locs : List Loc} {cells slots : Nat} {Q : State → Prop} {pc : Nat} {ls : Array Slot} {g : mz_G} {b : Nat}
theorem lw_x {index : Nat} {y : MethodName} {cc' : ByteArray} {maxL' n' fr lo kk n o q : Nat} {ret' : Option FieldType} {rs : mz_RS} {h h' : mz_H} {v : Value} (X : mz_X p g RL cL_law 4 (fun q : Nat => s.heap.size ≤ q) s m #[Value.ref b] c) (J : lw_J g s q rs h H locs) (hrc : mz_is h (some o) 10 = true) (hls : ls.size = 4) (As : List Value) (hM : mz_C l g y cc' maxL' ret' fr lo (.ref o :: As) h (some v) h' kk n) (hB : mz_MB RL index y cc' maxL' ret' n') (hin : Cond.instanceMethod y ∈ mz_tbl ∧ Cond.selects RX11 y y ∈ mz_tbl) (hlen : As.length = n') (hR : fr + 1 ≤ 2048 ∧ 8 + (maxL' + 11) + lo ≤ 84000) (hf : cells + kk ≤ 600000 ∧ slots + n ≤ 7302250) (hdg : decode cL_law pc = .ok (.invokevirtual index, 3)) {st0 : List Value} (hst0 : st0 = As.reverse ++ [.ref o])
    (cont : ∀ H1 locs1, lw_J g s q rs h' H1 locs1 → W p l e room_1 s m #[Value.ref b] below meth c H1 locs1 (cells + kk) (slots + n) Q (F0 m (pc + 3) ls [v])) : W p l e room_1 s m #[Value.ref b] below meth c H locs cells slots Q (F0 m pc ls st0) :=
  mz_run2 X J.1 J.2.1 J.2.2.1 J.2.2.2 (mz_runV (ci := 10) (rest := []) X J.1 J.2.2.2 hls As hM hB rfl hin hrc hlen (by decide) hR hf hdg hst0) (fun H1 locs1 h1 h2 h3 h4 => cont H1 locs1 ⟨h1, h2, h3, h4⟩)
theorem lw_m {index : Nat} {y : MethodName} {cc' : ByteArray} {maxL' n' fr lo q : Nat} {ret' : Option FieldType} {rs rs' : mz_RS} {h : mz_H} {v w : Value} (X : mz_X p g RL cL_law 4 (fun q : Nat => s.heap.size ≤ q) s m #[Value.ref b] c) (J : lw_J g s q rs h H locs) (hls : ls.size = 4) (As : List Value) (hM : mz_C l g y cc' maxL' ret' fr lo (.ref q :: As) (mz_RH q h.2 rs) (some v) (mz_RH q h.2 rs') 0 0) (hB : mz_MB RL index y cc' maxL' ret' n') (hin : Cond.instanceMethod y ∈ mz_tbl ∧ Cond.selects RX12 y y ∈ mz_tbl) (hlen : As.length = n') (hR : fr + 1 ≤ 2048 ∧ 8 + (maxL' + 11) + lo ≤ 84000) (hf : cells ≤ 600000 ∧ slots ≤ 7302250) (hdg : decode cL_law pc = .ok (.invokevirtual index, 3)) {st0 : List Value} (hst0 : st0 = As.reverse ++ .ref q :: [w])
    (cont : ∀ H1 locs1, lw_J g s q rs' h H1 locs1 → W p l e room_1 s m #[Value.ref b] below meth c H1 locs1 (cells + 0) (slots + 0) Q (F0 m (pc + 3) ls [v, w])) : W p l e room_1 s m #[Value.ref b] below meth c H locs cells slots Q (F0 m pc ls st0) :=
  mz_run2 X J.2.1 J.1 (fun a e e' h1 h2 => J.2.2.1 a e' e h2 h1) J.2.2.2 (mz_runV (ci := 11) (rest := [w]) X J.2.1 J.2.2.2 hls As hM hB rfl hin (mz_RH_is _ _ _) hlen (by show 1 ≤ 4; decide) hR hf hdg hst0) (fun H1 locs1 h1 h2 h3 h4 => cont H1 locs1 ⟨h2, h1, fun a e e' g1 g2 => h3 a e' e g2 g1, h4⟩)
end

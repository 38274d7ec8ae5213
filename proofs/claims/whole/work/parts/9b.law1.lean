/-! the law's cases -/
theorem dL_law_212 : decode cL_law 212 = .ok (.aload_n 1, 1) := by decide +kernel
theorem dL_law_213 : decode cL_law 213 = .ok (.aload_n 0, 1) := by decide +kernel
theorem dL_law_214 : decode cL_law 214 = .ok (.iload_n 3, 1) := by decide +kernel
theorem dL_law_215 : decode cL_law 215 = .ok (.iconst 1, 1) := by decide +kernel
theorem dL_law_216 : decode cL_law 216 = .ok (.iadd, 1) := by decide +kernel
theorem dL_law_217 : decode cL_law 217 = .ok (.iaload, 1) := by decide +kernel
theorem dL_law_218 : decode cL_law 218 = .ok (.aload_n 0, 1) := by decide +kernel
theorem dL_law_219 : decode cL_law 219 = .ok (.iload_n 3, 1) := by decide +kernel
theorem dL_law_220 : decode cL_law 220 = .ok (.iconst 2, 1) := by decide +kernel
theorem dL_law_221 : decode cL_law 221 = .ok (.iadd, 1) := by decide +kernel
theorem dL_law_222 : decode cL_law 222 = .ok (.iaload, 1) := by decide +kernel
theorem dL_law_223 : decode cL_law 223 = .ok (.invokevirtual 13, 3) := by decide +kernel
theorem dL_law_226 : decode cL_law 226 = .ok (.aload_n 2, 1) := by decide +kernel
theorem dL_law_227 : decode cL_law 227 = .ok (.aload_n 0, 1) := by decide +kernel
theorem dL_law_228 : decode cL_law 228 = .ok (.iload_n 3, 1) := by decide +kernel
theorem dL_law_229 : decode cL_law 229 = .ok (.iconst 1, 1) := by decide +kernel
theorem dL_law_230 : decode cL_law 230 = .ok (.iadd, 1) := by decide +kernel
theorem dL_law_231 : decode cL_law 231 = .ok (.iaload, 1) := by decide +kernel
theorem dL_law_232 : decode cL_law 232 = .ok (.aload_n 0, 1) := by decide +kernel
theorem dL_law_233 : decode cL_law 233 = .ok (.iload_n 3, 1) := by decide +kernel
theorem dL_law_234 : decode cL_law 234 = .ok (.iconst 2, 1) := by decide +kernel
theorem dL_law_235 : decode cL_law 235 = .ok (.iadd, 1) := by decide +kernel
theorem dL_law_236 : decode cL_law 236 = .ok (.iaload, 1) := by decide +kernel
theorem dL_law_237 : decode cL_law 237 = .ok (.invokevirtual 17, 3) := by decide +kernel
theorem dL_law_240 : decode cL_law 240 = .ok (.if_icmp .eq 1659, 3) := by decide +kernel
theorem lb_13 : mz_MB RL 13 yX11_cls cX11_cls 5 (some .int) 2 := ⟨mz_tb 235 (by decide +kernel) rfl, mz_tb 40 (by decide +kernel) rfl, mz_tb 238 (by decide +kernel) rfl, by decide, by decide, by decide +kernel⟩
theorem li_X11_cls : Cond.instanceMethod yX11_cls ∈ mz_tbl ∧ Cond.selects RX11 yX11_cls yX11_cls ∈ mz_tbl := ⟨mz_tb 236 (by decide +kernel) rfl, mz_tb 237 (by decide +kernel) rfl⟩
theorem lb_17 : mz_MB RL 17 yX12_cls cX12_cls 4 (some .int) 2 := ⟨mz_tb 1121 (by decide +kernel) rfl, mz_tb 45 (by decide +kernel) rfl, mz_tb 1124 (by decide +kernel) rfl, by decide, by decide, by decide +kernel⟩
theorem li_X12_cls : Cond.instanceMethod yX12_cls ∈ mz_tbl ∧ Cond.selects RX12 yX12_cls yX12_cls ∈ mz_tbl := ⟨mz_tb 1122 (by decide +kernel) rfl, mz_tb 1123 (by decide +kernel) rfl⟩
section
variable {p : Program} {l : Launch} {e : Env} {s : State} {m : MethodId} {below : List Frame} {meth : Method} {c : Code} {H : Heap} {locs : List Loc} {cells slots : Nat} {Q : State → Prop} {ls : Array Slot} {g : mz_G} {b L : Nat} {xs : Nat → Int32} {VB o q k : Nat} {rs : mz_RS} {h : mz_H} {x3 : Int32}
set_option maxHeartbeats 4000000 in
set_option maxRecDepth 100000 in
theorem lc_0 (X : mz_X p g RL cL_law 4 (fun q : Nat => s.heap.size ≤ q) s m #[Value.ref b] c) (hX : va_X b L xs s s.heap) (hbl : b < s.heap.size) (hin : ∀ j : Nat, j < 8 → vp_in (x3 + nI j) L) (I : lw_I g s VB o q (k + 1) rs h H locs cells slots) (hl : mz_L ls 4 [(0, false, va_rf (some b)), (1, false, va_rf (some o)), (2, false, va_rf (some q)), (3, false, .int x3)]) (cont : ∀ rs' h' H' locs' cells' slots', lw_I g s VB o q k rs' h' H' locs' cells' slots' → W p l e room_1 s m #[Value.ref b] below meth c H' locs' cells' slots' Q (F0 m 1899 ls [])) : W p l e room_1 s m #[Value.ref b] below meth c H locs cells slots Q (F0 m 212 ls []) := by
  have hbA : ¬ (fun q : Nat => s.heap.size ≤ q) b := Nat.not_le.mpr hbl
  obtain ⟨r, h', kk, n, rs', e1, e2, I', z1, z2, z3, z4⟩ := k_cls (q := q) I.1 (xs (x3 + 1).toNatClampNeg) (xs (x3 + 2).toNatClampNeg)
  refine mz_aload_n X dL_law_212 rfl (mz_at hl 1 rfl) ?_
  refine mz_aload_n X dL_law_213 rfl (mz_at hl 0 rfl) ?_
  refine lv_iload_n X.1 X.2.1 dL_law_214 rfl (mz_at hl 3 rfl) ?_
  refine lv_iconst (v := 1) X.1 X.2.1 dL_law_215 (by decide) ?_
  refine lv_iadd X.1 X.2.1 dL_law_216 ?_
  refine va_sld X.1 X.2.1 hX hbl hbA I.2.1.2.2.2 (hin 1 (by decide)) dL_law_217 ?_
  refine mz_aload_n X dL_law_218 rfl (mz_at hl 0 rfl) ?_
  refine lv_iload_n X.1 X.2.1 dL_law_219 rfl (mz_at hl 3 rfl) ?_
  refine lv_iconst (v := 2) X.1 X.2.1 dL_law_220 (by decide) ?_
  refine lv_iadd X.1 X.2.1 dL_law_221 ?_
  refine va_sld X.1 X.2.1 hX hbl hbA I.2.1.2.2.2 (hin 2 (by decide)) dL_law_222 ?_
  refine lw_x X I.2.1 I.1.is hl.1.1 [.int (xs (x3 + 1).toNatClampNeg), .int (xs (x3 + 2).toNatClampNeg)] (ct_X11_cls l g h (some o) (xs (x3 + 1).toNatClampNeg) (xs (x3 + 2).toNatClampNeg) r h' kk n e1) lb_13 li_X11_cls rfl ⟨Nat.le_of_ble_eq_true rfl, Nat.le_of_ble_eq_true rfl⟩ (lw_bud I I' z2 z3 z4) dL_law_223 rfl (fun H1 locs1 J => ?_)
  refine mz_aload_n X dL_law_226 rfl (mz_at hl 2 rfl) ?_
  refine mz_aload_n X dL_law_227 rfl (mz_at hl 0 rfl) ?_
  refine lv_iload_n X.1 X.2.1 dL_law_228 rfl (mz_at hl 3 rfl) ?_
  refine lv_iconst (v := 1) X.1 X.2.1 dL_law_229 (by decide) ?_
  refine lv_iadd X.1 X.2.1 dL_law_230 ?_
  refine va_sld X.1 X.2.1 hX hbl hbA J.2.2.2 (hin 1 (by decide)) dL_law_231 ?_
  refine mz_aload_n X dL_law_232 rfl (mz_at hl 0 rfl) ?_
  refine lv_iload_n X.1 X.2.1 dL_law_233 rfl (mz_at hl 3 rfl) ?_
  refine lv_iconst (v := 2) X.1 X.2.1 dL_law_234 (by decide) ?_
  refine lv_iadd X.1 X.2.1 dL_law_235 ?_
  refine va_sld X.1 X.2.1 hX hbl hbA J.2.2.2 (hin 2 (by decide)) dL_law_236 ?_
  refine lw_m X J hl.1.1 [.int (xs (x3 + 1).toNatClampNeg), .int (xs (x3 + 2).toNatClampNeg)] (ct_X12_cls l g (mz_RH q h'.2 rs) (some q) (xs (x3 + 1).toNatClampNeg) (xs (x3 + 2).toNatClampNeg) r (mz_RH q h'.2 rs') 0 0 e2) lb_17 li_X12_cls rfl ⟨Nat.le_of_ble_eq_true rfl, Nat.le_of_ble_eq_true rfl⟩ (lw_bud I I' z2 z3 z4) dL_law_237 rfl (fun H2 locs2 J2 => ?_)
  refine lv_icmp_eq (tgt := 1899) X.1 X.2.1 dL_law_240 (by decide) (fun _ => ?_) (fun z => absurd rfl z)
  exact cont _ _ _ _ _ _ (lw_next I I' z2 z3 z4 J2)
end

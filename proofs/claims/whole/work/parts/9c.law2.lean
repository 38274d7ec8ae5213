/-! the law's cases -/
theorem dL_law_245 : decode cL_law 245 = .ok (.aload_n 1, 1) := by decide +kernel
theorem dL_law_246 : decode cL_law 246 = .ok (.aload_n 0, 1) := by decide +kernel
theorem dL_law_247 : decode cL_law 247 = .ok (.iload_n 3, 1) := by decide +kernel
theorem dL_law_248 : decode cL_law 248 = .ok (.iconst 1, 1) := by decide +kernel
theorem dL_law_249 : decode cL_law 249 = .ok (.iadd, 1) := by decide +kernel
theorem dL_law_250 : decode cL_law 250 = .ok (.iaload, 1) := by decide +kernel
theorem dL_law_251 : decode cL_law 251 = .ok (.aload_n 0, 1) := by decide +kernel
theorem dL_law_252 : decode cL_law 252 = .ok (.iload_n 3, 1) := by decide +kernel
theorem dL_law_253 : decode cL_law 253 = .ok (.iconst 2, 1) := by decide +kernel
theorem dL_law_254 : decode cL_law 254 = .ok (.iadd, 1) := by decide +kernel
theorem dL_law_255 : decode cL_law 255 = .ok (.iaload, 1) := by decide +kernel
theorem dL_law_256 : decode cL_law 256 = .ok (.invokevirtual 18, 3) := by decide +kernel
theorem dL_law_259 : decode cL_law 259 = .ok (.aload_n 2, 1) := by decide +kernel
theorem dL_law_260 : decode cL_law 260 = .ok (.aload_n 0, 1) := by decide +kernel
theorem dL_law_261 : decode cL_law 261 = .ok (.iload_n 3, 1) := by decide +kernel
theorem dL_law_262 : decode cL_law 262 = .ok (.iconst 1, 1) := by decide +kernel
theorem dL_law_263 : decode cL_law 263 = .ok (.iadd, 1) := by decide +kernel
theorem dL_law_264 : decode cL_law 264 = .ok (.iaload, 1) := by decide +kernel
theorem dL_law_265 : decode cL_law 265 = .ok (.aload_n 0, 1) := by decide +kernel
theorem dL_law_266 : decode cL_law 266 = .ok (.iload_n 3, 1) := by decide +kernel
theorem dL_law_267 : decode cL_law 267 = .ok (.iconst 2, 1) := by decide +kernel
theorem dL_law_268 : decode cL_law 268 = .ok (.iadd, 1) := by decide +kernel
theorem dL_law_269 : decode cL_law 269 = .ok (.iaload, 1) := by decide +kernel
theorem dL_law_270 : decode cL_law 270 = .ok (.invokevirtual 21, 3) := by decide +kernel
theorem dL_law_273 : decode cL_law 273 = .ok (.if_icmp .eq 1626, 3) := by decide +kernel
theorem lb_18 : mz_MB RL 18 yX11_face cX11_face 5 (some .int) 2 := ⟨mz_tb 309 (by decide +kernel) rfl, mz_tb 40 (by decide +kernel) rfl, mz_tb 312 (by decide +kernel) rfl, by decide, by decide, by decide +kernel⟩
theorem li_X11_face : Cond.instanceMethod yX11_face ∈ mz_tbl ∧ Cond.selects RX11 yX11_face yX11_face ∈ mz_tbl := ⟨mz_tb 310 (by decide +kernel) rfl, mz_tb 311 (by decide +kernel) rfl⟩
theorem lb_21 : mz_MB RL 21 yX12_face cX12_face 5 (some .int) 2 := ⟨mz_tb 1136 (by decide +kernel) rfl, mz_tb 45 (by decide +kernel) rfl, mz_tb 1139 (by decide +kernel) rfl, by decide, by decide, by decide +kernel⟩
theorem li_X12_face : Cond.instanceMethod yX12_face ∈ mz_tbl ∧ Cond.selects RX12 yX12_face yX12_face ∈ mz_tbl := ⟨mz_tb 1137 (by decide +kernel) rfl, mz_tb 1138 (by decide +kernel) rfl⟩
section
variable {p : Program} {l : Launch} {e : Env} {s : State} {m : MethodId} {below : List Frame} {meth : Method} {c : Code} {H : Heap} {locs : List Loc} {cells slots : Nat} {Q : State → Prop} {ls : Array Slot} {g : mz_G} {b L : Nat} {xs : Nat → Int32} {VB o q k : Nat} {rs : mz_RS} {h : mz_H} {x3 : Int32}
set_option maxHeartbeats 4000000 in
set_option maxRecDepth 100000 in
theorem lc_1 (X : mz_X p g RL cL_law 4 (fun q : Nat => s.heap.size ≤ q) s m #[Value.ref b] c) (hX : va_X b L xs s s.heap) (hbl : b < s.heap.size) (hin : ∀ j : Nat, j < 8 → vp_in (x3 + nI j) L) (I : lw_I g s VB o q (k + 1) rs h H locs cells slots) (hl : mz_L ls 4 [(0, false, va_rf (some b)), (1, false, va_rf (some o)), (2, false, va_rf (some q)), (3, false, .int x3)]) (cont : ∀ rs' h' H' locs' cells' slots', lw_I g s VB o q k rs' h' H' locs' cells' slots' → W p l e room_1 s m #[Value.ref b] below meth c H' locs' cells' slots' Q (F0 m 1899 ls [])) : W p l e room_1 s m #[Value.ref b] below meth c H locs cells slots Q (F0 m 245 ls []) := by
  have hbA : ¬ (fun q : Nat => s.heap.size ≤ q) b := Nat.not_le.mpr hbl
  obtain ⟨r, h', kk, n, rs', e1, e2, I', z1, z2, z3, z4⟩ := k_face (q := q) I.1 (xs (x3 + 1).toNatClampNeg) (xs (x3 + 2).toNatClampNeg)
  refine mz_aload_n X dL_law_245 rfl (mz_at hl 1 rfl) ?_
  refine mz_aload_n X dL_law_246 rfl (mz_at hl 0 rfl) ?_
  refine lv_iload_n X.1 X.2.1 dL_law_247 rfl (mz_at hl 3 rfl) ?_
  refine lv_iconst (v := 1) X.1 X.2.1 dL_law_248 (by decide) ?_
  refine lv_iadd X.1 X.2.1 dL_law_249 ?_
  refine va_sld X.1 X.2.1 hX hbl hbA I.2.1.2.2.2 (hin 1 (by decide)) dL_law_250 ?_
  refine mz_aload_n X dL_law_251 rfl (mz_at hl 0 rfl) ?_
  refine lv_iload_n X.1 X.2.1 dL_law_252 rfl (mz_at hl 3 rfl) ?_
  refine lv_iconst (v := 2) X.1 X.2.1 dL_law_253 (by decide) ?_
  refine lv_iadd X.1 X.2.1 dL_law_254 ?_
  refine va_sld X.1 X.2.1 hX hbl hbA I.2.1.2.2.2 (hin 2 (by decide)) dL_law_255 ?_
  refine lw_x X I.2.1 I.1.is hl.1.1 [.int (xs (x3 + 1).toNatClampNeg), .int (xs (x3 + 2).toNatClampNeg)] (ct_X11_face l g h (some o) (xs (x3 + 1).toNatClampNeg) (xs (x3 + 2).toNatClampNeg) r h' kk n e1) lb_18 li_X11_face rfl ⟨Nat.le_of_ble_eq_true rfl, Nat.le_of_ble_eq_true rfl⟩ (lw_bud I I' z2 z3 z4) dL_law_256 rfl (fun H1 locs1 J => ?_)
  refine mz_aload_n X dL_law_259 rfl (mz_at hl 2 rfl) ?_
  refine mz_aload_n X dL_law_260 rfl (mz_at hl 0 rfl) ?_
  refine lv_iload_n X.1 X.2.1 dL_law_261 rfl (mz_at hl 3 rfl) ?_
  refine lv_iconst (v := 1) X.1 X.2.1 dL_law_262 (by decide) ?_
  refine lv_iadd X.1 X.2.1 dL_law_263 ?_
  refine va_sld X.1 X.2.1 hX hbl hbA J.2.2.2 (hin 1 (by decide)) dL_law_264 ?_
  refine mz_aload_n X dL_law_265 rfl (mz_at hl 0 rfl) ?_
  refine lv_iload_n X.1 X.2.1 dL_law_266 rfl (mz_at hl 3 rfl) ?_
  refine lv_iconst (v := 2) X.1 X.2.1 dL_law_267 (by decide) ?_
  refine lv_iadd X.1 X.2.1 dL_law_268 ?_
  refine va_sld X.1 X.2.1 hX hbl hbA J.2.2.2 (hin 2 (by decide)) dL_law_269 ?_
  refine lw_m X J hl.1.1 [.int (xs (x3 + 1).toNatClampNeg), .int (xs (x3 + 2).toNatClampNeg)] (ct_X12_face l g (mz_RH q h'.2 rs) (some q) (xs (x3 + 1).toNatClampNeg) (xs (x3 + 2).toNatClampNeg) r (mz_RH q h'.2 rs') 0 0 e2) lb_21 li_X12_face rfl ⟨Nat.le_of_ble_eq_true rfl, Nat.le_of_ble_eq_true rfl⟩ (lw_bud I I' z2 z3 z4) dL_law_270 rfl (fun H2 locs2 J2 => ?_)
  refine lv_icmp_eq (tgt := 1899) X.1 X.2.1 dL_law_273 (by decide) (fun _ => ?_) (fun z => absurd rfl z)
  exact cont _ _ _ _ _ _ (lw_next I I' z2 z3 z4 J2)
end
theorem dL_law_278 : decode cL_law 278 = .ok (.aload_n 1, 1) := by decide +kernel
theorem dL_law_279 : decode cL_law 279 = .ok (.aload_n 0, 1) := by decide +kernel
theorem dL_law_280 : decode cL_law 280 = .ok (.iload_n 3, 1) := by decide +kernel
theorem dL_law_281 : decode cL_law 281 = .ok (.iconst 1, 1) := by decide +kernel
theorem dL_law_282 : decode cL_law 282 = .ok (.iadd, 1) := by decide +kernel
theorem dL_law_283 : decode cL_law 283 = .ok (.iaload, 1) := by decide +kernel
theorem dL_law_284 : decode cL_law 284 = .ok (.aload_n 0, 1) := by decide +kernel
theorem dL_law_285 : decode cL_law 285 = .ok (.iload_n 3, 1) := by decide +kernel
theorem dL_law_286 : decode cL_law 286 = .ok (.iconst 2, 1) := by decide +kernel
theorem dL_law_287 : decode cL_law 287 = .ok (.iadd, 1) := by decide +kernel
theorem dL_law_288 : decode cL_law 288 = .ok (.iaload, 1) := by decide +kernel
theorem dL_law_289 : decode cL_law 289 = .ok (.invokevirtual 22, 3) := by decide +kernel
theorem dL_law_292 : decode cL_law 292 = .ok (.aload_n 2, 1) := by decide +kernel
theorem dL_law_293 : decode cL_law 293 = .ok (.aload_n 0, 1) := by decide +kernel
theorem dL_law_294 : decode cL_law 294 = .ok (.iload_n 3, 1) := by decide +kernel
theorem dL_law_295 : decode cL_law 295 = .ok (.iconst 1, 1) := by decide +kernel
theorem dL_law_296 : decode cL_law 296 = .ok (.iadd, 1) := by decide +kernel
theorem dL_law_297 : decode cL_law 297 = .ok (.iaload, 1) := by decide +kernel
theorem dL_law_298 : decode cL_law 298 = .ok (.aload_n 0, 1) := by decide +kernel
theorem dL_law_299 : decode cL_law 299 = .ok (.iload_n 3, 1) := by decide +kernel
theorem dL_law_300 : decode cL_law 300 = .ok (.iconst 2, 1) := by decide +kernel
theorem dL_law_301 : decode cL_law 301 = .ok (.iadd, 1) := by decide +kernel
theorem dL_law_302 : decode cL_law 302 = .ok (.iaload, 1) := by decide +kernel
theorem dL_law_303 : decode cL_law 303 = .ok (.invokevirtual 25, 3) := by decide +kernel
theorem dL_law_306 : decode cL_law 306 = .ok (.if_icmp .eq 1593, 3) := by decide +kernel
theorem lb_22 : mz_MB RL 22 yX11_variable cX11_variable 4 (some .int) 2 := ⟨mz_tb 334 (by decide +kernel) rfl, mz_tb 40 (by decide +kernel) rfl, mz_tb 337 (by decide +kernel) rfl, by decide, by decide, by decide +kernel⟩
theorem li_X11_variable : Cond.instanceMethod yX11_variable ∈ mz_tbl ∧ Cond.selects RX11 yX11_variable yX11_variable ∈ mz_tbl := ⟨mz_tb 335 (by decide +kernel) rfl, mz_tb 336 (by decide +kernel) rfl⟩
theorem lb_25 : mz_MB RL 25 yX12_variable cX12_variable 3 (some .int) 2 := ⟨mz_tb 1156 (by decide +kernel) rfl, mz_tb 45 (by decide +kernel) rfl, mz_tb 1159 (by decide +kernel) rfl, by decide, by decide, by decide +kernel⟩
theorem li_X12_variable : Cond.instanceMethod yX12_variable ∈ mz_tbl ∧ Cond.selects RX12 yX12_variable yX12_variable ∈ mz_tbl := ⟨mz_tb 1157 (by decide +kernel) rfl, mz_tb 1158 (by decide +kernel) rfl⟩
section
variable {p : Program} {l : Launch} {e : Env} {s : State} {m : MethodId} {below : List Frame} {meth : Method} {c : Code} {H : Heap} {locs : List Loc} {cells slots : Nat} {Q : State → Prop} {ls : Array Slot} {g : mz_G} {b L : Nat} {xs : Nat → Int32} {VB o q k : Nat} {rs : mz_RS} {h : mz_H} {x3 : Int32}
set_option maxHeartbeats 4000000 in
set_option maxRecDepth 100000 in
theorem lc_2 (X : mz_X p g RL cL_law 4 (fun q : Nat => s.heap.size ≤ q) s m #[Value.ref b] c) (hX : va_X b L xs s s.heap) (hbl : b < s.heap.size) (hin : ∀ j : Nat, j < 8 → vp_in (x3 + nI j) L) (I : lw_I g s VB o q (k + 1) rs h H locs cells slots) (hl : mz_L ls 4 [(0, false, va_rf (some b)), (1, false, va_rf (some o)), (2, false, va_rf (some q)), (3, false, .int x3)]) (cont : ∀ rs' h' H' locs' cells' slots', lw_I g s VB o q k rs' h' H' locs' cells' slots' → W p l e room_1 s m #[Value.ref b] below meth c H' locs' cells' slots' Q (F0 m 1899 ls [])) : W p l e room_1 s m #[Value.ref b] below meth c H locs cells slots Q (F0 m 278 ls []) := by
  have hbA : ¬ (fun q : Nat => s.heap.size ≤ q) b := Nat.not_le.mpr hbl
  obtain ⟨r, h', kk, n, rs', e1, e2, I', z1, z2, z3, z4⟩ := k_variable (q := q) I.1 (xs (x3 + 1).toNatClampNeg) (xs (x3 + 2).toNatClampNeg)
  refine mz_aload_n X dL_law_278 rfl (mz_at hl 1 rfl) ?_
  refine mz_aload_n X dL_law_279 rfl (mz_at hl 0 rfl) ?_
  refine lv_iload_n X.1 X.2.1 dL_law_280 rfl (mz_at hl 3 rfl) ?_
  refine lv_iconst (v := 1) X.1 X.2.1 dL_law_281 (by decide) ?_
  refine lv_iadd X.1 X.2.1 dL_law_282 ?_
  refine va_sld X.1 X.2.1 hX hbl hbA I.2.1.2.2.2 (hin 1 (by decide)) dL_law_283 ?_
  refine mz_aload_n X dL_law_284 rfl (mz_at hl 0 rfl) ?_
  refine lv_iload_n X.1 X.2.1 dL_law_285 rfl (mz_at hl 3 rfl) ?_
  refine lv_iconst (v := 2) X.1 X.2.1 dL_law_286 (by decide) ?_
  refine lv_iadd X.1 X.2.1 dL_law_287 ?_
  refine va_sld X.1 X.2.1 hX hbl hbA I.2.1.2.2.2 (hin 2 (by decide)) dL_law_288 ?_
  refine lw_x X I.2.1 I.1.is hl.1.1 [.int (xs (x3 + 1).toNatClampNeg), .int (xs (x3 + 2).toNatClampNeg)] (ct_X11_variable l g h (some o) (xs (x3 + 1).toNatClampNeg) (xs (x3 + 2).toNatClampNeg) r h' kk n e1) lb_22 li_X11_variable rfl ⟨Nat.le_of_ble_eq_true rfl, Nat.le_of_ble_eq_true rfl⟩ (lw_bud I I' z2 z3 z4) dL_law_289 rfl (fun H1 locs1 J => ?_)
  refine mz_aload_n X dL_law_292 rfl (mz_at hl 2 rfl) ?_
  refine mz_aload_n X dL_law_293 rfl (mz_at hl 0 rfl) ?_
  refine lv_iload_n X.1 X.2.1 dL_law_294 rfl (mz_at hl 3 rfl) ?_
  refine lv_iconst (v := 1) X.1 X.2.1 dL_law_295 (by decide) ?_
  refine lv_iadd X.1 X.2.1 dL_law_296 ?_
  refine va_sld X.1 X.2.1 hX hbl hbA J.2.2.2 (hin 1 (by decide)) dL_law_297 ?_
  refine mz_aload_n X dL_law_298 rfl (mz_at hl 0 rfl) ?_
  refine lv_iload_n X.1 X.2.1 dL_law_299 rfl (mz_at hl 3 rfl) ?_
  refine lv_iconst (v := 2) X.1 X.2.1 dL_law_300 (by decide) ?_
  refine lv_iadd X.1 X.2.1 dL_law_301 ?_
  refine va_sld X.1 X.2.1 hX hbl hbA J.2.2.2 (hin 2 (by decide)) dL_law_302 ?_
  refine lw_m X J hl.1.1 [.int (xs (x3 + 1).toNatClampNeg), .int (xs (x3 + 2).toNatClampNeg)] (ct_X12_variable l g (mz_RH q h'.2 rs) (some q) (xs (x3 + 1).toNatClampNeg) (xs (x3 + 2).toNatClampNeg) r (mz_RH q h'.2 rs') 0 0 e2) lb_25 li_X12_variable rfl ⟨Nat.le_of_ble_eq_true rfl, Nat.le_of_ble_eq_true rfl⟩ (lw_bud I I' z2 z3 z4) dL_law_303 rfl (fun H2 locs2 J2 => ?_)
  refine lv_icmp_eq (tgt := 1899) X.1 X.2.1 dL_law_306 (by decide) (fun _ => ?_) (fun z => absurd rfl z)
  exact cont _ _ _ _ _ _ (lw_next I I' z2 z3 z4 J2)
end
theorem dL_law_311 : decode cL_law 311 = .ok (.aload_n 1, 1) := by decide +kernel
theorem dL_law_312 : decode cL_law 312 = .ok (.aload_n 0, 1) := by decide +kernel
theorem dL_law_313 : decode cL_law 313 = .ok (.iload_n 3, 1) := by decide +kernel
theorem dL_law_314 : decode cL_law 314 = .ok (.iconst 1, 1) := by decide +kernel
theorem dL_law_315 : decode cL_law 315 = .ok (.iadd, 1) := by decide +kernel
theorem dL_law_316 : decode cL_law 316 = .ok (.iaload, 1) := by decide +kernel
theorem dL_law_317 : decode cL_law 317 = .ok (.aload_n 0, 1) := by decide +kernel
theorem dL_law_318 : decode cL_law 318 = .ok (.iload_n 3, 1) := by decide +kernel
theorem dL_law_319 : decode cL_law 319 = .ok (.iconst 2, 1) := by decide +kernel
theorem dL_law_320 : decode cL_law 320 = .ok (.iadd, 1) := by decide +kernel
theorem dL_law_321 : decode cL_law 321 = .ok (.iaload, 1) := by decide +kernel
theorem dL_law_322 : decode cL_law 322 = .ok (.aload_n 0, 1) := by decide +kernel
theorem dL_law_323 : decode cL_law 323 = .ok (.iload_n 3, 1) := by decide +kernel
theorem dL_law_324 : decode cL_law 324 = .ok (.iconst 3, 1) := by decide +kernel
theorem dL_law_325 : decode cL_law 325 = .ok (.iadd, 1) := by decide +kernel
theorem dL_law_326 : decode cL_law 326 = .ok (.iaload, 1) := by decide +kernel
theorem dL_law_327 : decode cL_law 327 = .ok (.aload_n 0, 1) := by decide +kernel
theorem dL_law_328 : decode cL_law 328 = .ok (.iload_n 3, 1) := by decide +kernel
theorem dL_law_329 : decode cL_law 329 = .ok (.iconst 4, 1) := by decide +kernel
theorem dL_law_330 : decode cL_law 330 = .ok (.iadd, 1) := by decide +kernel
theorem dL_law_331 : decode cL_law 331 = .ok (.iaload, 1) := by decide +kernel
theorem dL_law_332 : decode cL_law 332 = .ok (.aload_n 0, 1) := by decide +kernel
theorem dL_law_333 : decode cL_law 333 = .ok (.iload_n 3, 1) := by decide +kernel
theorem dL_law_334 : decode cL_law 334 = .ok (.iconst 5, 1) := by decide +kernel
theorem dL_law_335 : decode cL_law 335 = .ok (.iadd, 1) := by decide +kernel
theorem dL_law_336 : decode cL_law 336 = .ok (.iaload, 1) := by decide +kernel
theorem dL_law_337 : decode cL_law 337 = .ok (.aload_n 0, 1) := by decide +kernel
theorem dL_law_338 : decode cL_law 338 = .ok (.iload_n 3, 1) := by decide +kernel
theorem dL_law_339 : decode cL_law 339 = .ok (.bipush 6, 2) := by decide +kernel
theorem dL_law_341 : decode cL_law 341 = .ok (.iadd, 1) := by decide +kernel
theorem dL_law_342 : decode cL_law 342 = .ok (.iaload, 1) := by decide +kernel
theorem dL_law_343 : decode cL_law 343 = .ok (.invokevirtual 26, 3) := by decide +kernel
theorem dL_law_346 : decode cL_law 346 = .ok (.aload_n 2, 1) := by decide +kernel
theorem dL_law_347 : decode cL_law 347 = .ok (.aload_n 0, 1) := by decide +kernel
theorem dL_law_348 : decode cL_law 348 = .ok (.iload_n 3, 1) := by decide +kernel
theorem dL_law_349 : decode cL_law 349 = .ok (.iconst 1, 1) := by decide +kernel
theorem dL_law_350 : decode cL_law 350 = .ok (.iadd, 1) := by decide +kernel
theorem dL_law_351 : decode cL_law 351 = .ok (.iaload, 1) := by decide +kernel
theorem dL_law_352 : decode cL_law 352 = .ok (.aload_n 0, 1) := by decide +kernel
theorem dL_law_353 : decode cL_law 353 = .ok (.iload_n 3, 1) := by decide +kernel
theorem dL_law_354 : decode cL_law 354 = .ok (.iconst 2, 1) := by decide +kernel
theorem dL_law_355 : decode cL_law 355 = .ok (.iadd, 1) := by decide +kernel
theorem dL_law_356 : decode cL_law 356 = .ok (.iaload, 1) := by decide +kernel
theorem dL_law_357 : decode cL_law 357 = .ok (.aload_n 0, 1) := by decide +kernel
theorem dL_law_358 : decode cL_law 358 = .ok (.iload_n 3, 1) := by decide +kernel
theorem dL_law_359 : decode cL_law 359 = .ok (.iconst 3, 1) := by decide +kernel
theorem dL_law_360 : decode cL_law 360 = .ok (.iadd, 1) := by decide +kernel
theorem dL_law_361 : decode cL_law 361 = .ok (.iaload, 1) := by decide +kernel
theorem dL_law_362 : decode cL_law 362 = .ok (.aload_n 0, 1) := by decide +kernel
theorem dL_law_363 : decode cL_law 363 = .ok (.iload_n 3, 1) := by decide +kernel
theorem dL_law_364 : decode cL_law 364 = .ok (.iconst 4, 1) := by decide +kernel
theorem dL_law_365 : decode cL_law 365 = .ok (.iadd, 1) := by decide +kernel
theorem dL_law_366 : decode cL_law 366 = .ok (.iaload, 1) := by decide +kernel
theorem dL_law_367 : decode cL_law 367 = .ok (.aload_n 0, 1) := by decide +kernel
theorem dL_law_368 : decode cL_law 368 = .ok (.iload_n 3, 1) := by decide +kernel
theorem dL_law_369 : decode cL_law 369 = .ok (.iconst 5, 1) := by decide +kernel
theorem dL_law_370 : decode cL_law 370 = .ok (.iadd, 1) := by decide +kernel
theorem dL_law_371 : decode cL_law 371 = .ok (.iaload, 1) := by decide +kernel
theorem dL_law_372 : decode cL_law 372 = .ok (.aload_n 0, 1) := by decide +kernel
theorem dL_law_373 : decode cL_law 373 = .ok (.iload_n 3, 1) := by decide +kernel
theorem dL_law_374 : decode cL_law 374 = .ok (.bipush 6, 2) := by decide +kernel
theorem dL_law_376 : decode cL_law 376 = .ok (.iadd, 1) := by decide +kernel
theorem dL_law_377 : decode cL_law 377 = .ok (.iaload, 1) := by decide +kernel
theorem dL_law_378 : decode cL_law 378 = .ok (.invokevirtual 30, 3) := by decide +kernel
theorem dL_law_381 : decode cL_law 381 = .ok (.if_icmp .eq 1518, 3) := by decide +kernel
theorem lb_26 : mz_MB RL 26 yX11_member cX11_member 9 (some .int) 6 := ⟨mz_tb 341 (by decide +kernel) rfl, mz_tb 40 (by decide +kernel) rfl, mz_tb 344 (by decide +kernel) rfl, by decide, by decide, by decide +kernel⟩
theorem li_X11_member : Cond.instanceMethod yX11_member ∈ mz_tbl ∧ Cond.selects RX11 yX11_member yX11_member ∈ mz_tbl := ⟨mz_tb 342 (by decide +kernel) rfl, mz_tb 343 (by decide +kernel) rfl⟩
theorem lb_30 : mz_MB RL 30 yX12_member cX12_member 8 (some .int) 6 := ⟨mz_tb 1160 (by decide +kernel) rfl, mz_tb 45 (by decide +kernel) rfl, mz_tb 1163 (by decide +kernel) rfl, by decide, by decide, by decide +kernel⟩
theorem li_X12_member : Cond.instanceMethod yX12_member ∈ mz_tbl ∧ Cond.selects RX12 yX12_member yX12_member ∈ mz_tbl := ⟨mz_tb 1161 (by decide +kernel) rfl, mz_tb 1162 (by decide +kernel) rfl⟩
section
variable {p : Program} {l : Launch} {e : Env} {s : State} {m : MethodId} {below : List Frame} {meth : Method} {c : Code} {H : Heap} {locs : List Loc} {cells slots : Nat} {Q : State → Prop} {ls : Array Slot} {g : mz_G} {b L : Nat} {xs : Nat → Int32} {VB o q k : Nat} {rs : mz_RS} {h : mz_H} {x3 : Int32}
set_option maxHeartbeats 4000000 in
set_option maxRecDepth 100000 in
theorem lc_3 (X : mz_X p g RL cL_law 4 (fun q : Nat => s.heap.size ≤ q) s m #[Value.ref b] c) (hX : va_X b L xs s s.heap) (hbl : b < s.heap.size) (hin : ∀ j : Nat, j < 8 → vp_in (x3 + nI j) L) (I : lw_I g s VB o q (k + 1) rs h H locs cells slots) (hl : mz_L ls 4 [(0, false, va_rf (some b)), (1, false, va_rf (some o)), (2, false, va_rf (some q)), (3, false, .int x3)]) (cont : ∀ rs' h' H' locs' cells' slots', lw_I g s VB o q k rs' h' H' locs' cells' slots' → W p l e room_1 s m #[Value.ref b] below meth c H' locs' cells' slots' Q (F0 m 1899 ls [])) : W p l e room_1 s m #[Value.ref b] below meth c H locs cells slots Q (F0 m 311 ls []) := by
  have hbA : ¬ (fun q : Nat => s.heap.size ≤ q) b := Nat.not_le.mpr hbl
  obtain ⟨r, h', kk, n, rs', e1, e2, I', z1, z2, z3, z4⟩ := k_member (q := q) I.1 (xs (x3 + 1).toNatClampNeg) (xs (x3 + 2).toNatClampNeg) (xs (x3 + 3).toNatClampNeg) (xs (x3 + 4).toNatClampNeg) (xs (x3 + 5).toNatClampNeg) (xs (x3 + 6).toNatClampNeg)
  refine mz_aload_n X dL_law_311 rfl (mz_at hl 1 rfl) ?_
  refine mz_aload_n X dL_law_312 rfl (mz_at hl 0 rfl) ?_
  refine lv_iload_n X.1 X.2.1 dL_law_313 rfl (mz_at hl 3 rfl) ?_
  refine lv_iconst (v := 1) X.1 X.2.1 dL_law_314 (by decide) ?_
  refine lv_iadd X.1 X.2.1 dL_law_315 ?_
  refine va_sld X.1 X.2.1 hX hbl hbA I.2.1.2.2.2 (hin 1 (by decide)) dL_law_316 ?_
  refine mz_aload_n X dL_law_317 rfl (mz_at hl 0 rfl) ?_
  refine lv_iload_n X.1 X.2.1 dL_law_318 rfl (mz_at hl 3 rfl) ?_
  refine lv_iconst (v := 2) X.1 X.2.1 dL_law_319 (by decide) ?_
  refine lv_iadd X.1 X.2.1 dL_law_320 ?_
  refine va_sld X.1 X.2.1 hX hbl hbA I.2.1.2.2.2 (hin 2 (by decide)) dL_law_321 ?_
  refine mz_aload_n X dL_law_322 rfl (mz_at hl 0 rfl) ?_
  refine lv_iload_n X.1 X.2.1 dL_law_323 rfl (mz_at hl 3 rfl) ?_
  refine lv_iconst (v := 3) X.1 X.2.1 dL_law_324 (by decide) ?_
  refine lv_iadd X.1 X.2.1 dL_law_325 ?_
  refine va_sld X.1 X.2.1 hX hbl hbA I.2.1.2.2.2 (hin 3 (by decide)) dL_law_326 ?_
  refine mz_aload_n X dL_law_327 rfl (mz_at hl 0 rfl) ?_
  refine lv_iload_n X.1 X.2.1 dL_law_328 rfl (mz_at hl 3 rfl) ?_
  refine lv_iconst (v := 4) X.1 X.2.1 dL_law_329 (by decide) ?_
  refine lv_iadd X.1 X.2.1 dL_law_330 ?_
  refine va_sld X.1 X.2.1 hX hbl hbA I.2.1.2.2.2 (hin 4 (by decide)) dL_law_331 ?_
  refine mz_aload_n X dL_law_332 rfl (mz_at hl 0 rfl) ?_
  refine lv_iload_n X.1 X.2.1 dL_law_333 rfl (mz_at hl 3 rfl) ?_
  refine lv_iconst (v := 5) X.1 X.2.1 dL_law_334 (by decide) ?_
  refine lv_iadd X.1 X.2.1 dL_law_335 ?_
  refine va_sld X.1 X.2.1 hX hbl hbA I.2.1.2.2.2 (hin 5 (by decide)) dL_law_336 ?_
  refine mz_aload_n X dL_law_337 rfl (mz_at hl 0 rfl) ?_
  refine lv_iload_n X.1 X.2.1 dL_law_338 rfl (mz_at hl 3 rfl) ?_
  refine lv_bipush (v := 6) X.1 X.2.1 dL_law_339 (by decide) ?_
  refine lv_iadd X.1 X.2.1 dL_law_341 ?_
  refine va_sld X.1 X.2.1 hX hbl hbA I.2.1.2.2.2 (hin 6 (by decide)) dL_law_342 ?_
  refine lw_x X I.2.1 I.1.is hl.1.1 [.int (xs (x3 + 1).toNatClampNeg), .int (xs (x3 + 2).toNatClampNeg), .int (xs (x3 + 3).toNatClampNeg), .int (xs (x3 + 4).toNatClampNeg), .int (xs (x3 + 5).toNatClampNeg), .int (xs (x3 + 6).toNatClampNeg)] (ct_X11_member l g h (some o) (xs (x3 + 1).toNatClampNeg) (xs (x3 + 2).toNatClampNeg) (xs (x3 + 3).toNatClampNeg) (xs (x3 + 4).toNatClampNeg) (xs (x3 + 5).toNatClampNeg) (xs (x3 + 6).toNatClampNeg) r h' kk n e1) lb_26 li_X11_member rfl ⟨Nat.le_of_ble_eq_true rfl, Nat.le_of_ble_eq_true rfl⟩ (lw_bud I I' z2 z3 z4) dL_law_343 rfl (fun H1 locs1 J => ?_)
  refine mz_aload_n X dL_law_346 rfl (mz_at hl 2 rfl) ?_
  refine mz_aload_n X dL_law_347 rfl (mz_at hl 0 rfl) ?_
  refine lv_iload_n X.1 X.2.1 dL_law_348 rfl (mz_at hl 3 rfl) ?_
  refine lv_iconst (v := 1) X.1 X.2.1 dL_law_349 (by decide) ?_
  refine lv_iadd X.1 X.2.1 dL_law_350 ?_
  refine va_sld X.1 X.2.1 hX hbl hbA J.2.2.2 (hin 1 (by decide)) dL_law_351 ?_
  refine mz_aload_n X dL_law_352 rfl (mz_at hl 0 rfl) ?_
  refine lv_iload_n X.1 X.2.1 dL_law_353 rfl (mz_at hl 3 rfl) ?_
  refine lv_iconst (v := 2) X.1 X.2.1 dL_law_354 (by decide) ?_
  refine lv_iadd X.1 X.2.1 dL_law_355 ?_
  refine va_sld X.1 X.2.1 hX hbl hbA J.2.2.2 (hin 2 (by decide)) dL_law_356 ?_
  refine mz_aload_n X dL_law_357 rfl (mz_at hl 0 rfl) ?_
  refine lv_iload_n X.1 X.2.1 dL_law_358 rfl (mz_at hl 3 rfl) ?_
  refine lv_iconst (v := 3) X.1 X.2.1 dL_law_359 (by decide) ?_
  refine lv_iadd X.1 X.2.1 dL_law_360 ?_
  refine va_sld X.1 X.2.1 hX hbl hbA J.2.2.2 (hin 3 (by decide)) dL_law_361 ?_
  refine mz_aload_n X dL_law_362 rfl (mz_at hl 0 rfl) ?_
  refine lv_iload_n X.1 X.2.1 dL_law_363 rfl (mz_at hl 3 rfl) ?_
  refine lv_iconst (v := 4) X.1 X.2.1 dL_law_364 (by decide) ?_
  refine lv_iadd X.1 X.2.1 dL_law_365 ?_
  refine va_sld X.1 X.2.1 hX hbl hbA J.2.2.2 (hin 4 (by decide)) dL_law_366 ?_
  refine mz_aload_n X dL_law_367 rfl (mz_at hl 0 rfl) ?_
  refine lv_iload_n X.1 X.2.1 dL_law_368 rfl (mz_at hl 3 rfl) ?_
  refine lv_iconst (v := 5) X.1 X.2.1 dL_law_369 (by decide) ?_
  refine lv_iadd X.1 X.2.1 dL_law_370 ?_
  refine va_sld X.1 X.2.1 hX hbl hbA J.2.2.2 (hin 5 (by decide)) dL_law_371 ?_
  refine mz_aload_n X dL_law_372 rfl (mz_at hl 0 rfl) ?_
  refine lv_iload_n X.1 X.2.1 dL_law_373 rfl (mz_at hl 3 rfl) ?_
  refine lv_bipush (v := 6) X.1 X.2.1 dL_law_374 (by decide) ?_
  refine lv_iadd X.1 X.2.1 dL_law_376 ?_
  refine va_sld X.1 X.2.1 hX hbl hbA J.2.2.2 (hin 6 (by decide)) dL_law_377 ?_
  refine lw_m X J hl.1.1 [.int (xs (x3 + 1).toNatClampNeg), .int (xs (x3 + 2).toNatClampNeg), .int (xs (x3 + 3).toNatClampNeg), .int (xs (x3 + 4).toNatClampNeg), .int (xs (x3 + 5).toNatClampNeg), .int (xs (x3 + 6).toNatClampNeg)] (ct_X12_member l g (mz_RH q h'.2 rs) (some q) (xs (x3 + 1).toNatClampNeg) (xs (x3 + 2).toNatClampNeg) (xs (x3 + 3).toNatClampNeg) (xs (x3 + 4).toNatClampNeg) (xs (x3 + 5).toNatClampNeg) (xs (x3 + 6).toNatClampNeg) r (mz_RH q h'.2 rs') 0 0 e2) lb_30 li_X12_member rfl ⟨Nat.le_of_ble_eq_true rfl, Nat.le_of_ble_eq_true rfl⟩ (lw_bud I I' z2 z3 z4) dL_law_378 rfl (fun H2 locs2 J2 => ?_)
  refine lv_icmp_eq (tgt := 1899) X.1 X.2.1 dL_law_381 (by decide) (fun _ => ?_) (fun z => absurd rfl z)
  exact cont _ _ _ _ _ _ (lw_next I I' z2 z3 z4 J2)
end
theorem dL_law_386 : decode cL_law 386 = .ok (.aload_n 1, 1) := by decide +kernel
theorem dL_law_387 : decode cL_law 387 = .ok (.aload_n 0, 1) := by decide +kernel
theorem dL_law_388 : decode cL_law 388 = .ok (.iload_n 3, 1) := by decide +kernel
theorem dL_law_389 : decode cL_law 389 = .ok (.iconst 1, 1) := by decide +kernel
theorem dL_law_390 : decode cL_law 390 = .ok (.iadd, 1) := by decide +kernel
theorem dL_law_391 : decode cL_law 391 = .ok (.iaload, 1) := by decide +kernel
theorem dL_law_392 : decode cL_law 392 = .ok (.aload_n 0, 1) := by decide +kernel
theorem dL_law_393 : decode cL_law 393 = .ok (.iload_n 3, 1) := by decide +kernel
theorem dL_law_394 : decode cL_law 394 = .ok (.iconst 2, 1) := by decide +kernel
theorem dL_law_395 : decode cL_law 395 = .ok (.iadd, 1) := by decide +kernel
theorem dL_law_396 : decode cL_law 396 = .ok (.iaload, 1) := by decide +kernel
theorem dL_law_397 : decode cL_law 397 = .ok (.invokevirtual 31, 3) := by decide +kernel
theorem dL_law_400 : decode cL_law 400 = .ok (.aload_n 2, 1) := by decide +kernel
theorem dL_law_401 : decode cL_law 401 = .ok (.aload_n 0, 1) := by decide +kernel
theorem dL_law_402 : decode cL_law 402 = .ok (.iload_n 3, 1) := by decide +kernel
theorem dL_law_403 : decode cL_law 403 = .ok (.iconst 1, 1) := by decide +kernel
theorem dL_law_404 : decode cL_law 404 = .ok (.iadd, 1) := by decide +kernel
theorem dL_law_405 : decode cL_law 405 = .ok (.iaload, 1) := by decide +kernel
theorem dL_law_406 : decode cL_law 406 = .ok (.aload_n 0, 1) := by decide +kernel
theorem dL_law_407 : decode cL_law 407 = .ok (.iload_n 3, 1) := by decide +kernel
theorem dL_law_408 : decode cL_law 408 = .ok (.iconst 2, 1) := by decide +kernel
theorem dL_law_409 : decode cL_law 409 = .ok (.iadd, 1) := by decide +kernel
theorem dL_law_410 : decode cL_law 410 = .ok (.iaload, 1) := by decide +kernel
theorem dL_law_411 : decode cL_law 411 = .ok (.invokevirtual 34, 3) := by decide +kernel
theorem dL_law_414 : decode cL_law 414 = .ok (.if_icmp .eq 1485, 3) := by decide +kernel
theorem lb_31 : mz_MB RL 31 yX11_says cX11_says 4 (some .int) 2 := ⟨mz_tb 390 (by decide +kernel) rfl, mz_tb 40 (by decide +kernel) rfl, mz_tb 393 (by decide +kernel) rfl, by decide, by decide, by decide +kernel⟩
theorem li_X11_says : Cond.instanceMethod yX11_says ∈ mz_tbl ∧ Cond.selects RX11 yX11_says yX11_says ∈ mz_tbl := ⟨mz_tb 391 (by decide +kernel) rfl, mz_tb 392 (by decide +kernel) rfl⟩
theorem lb_34 : mz_MB RL 34 yX12_says cX12_says 3 (some .int) 2 := ⟨mz_tb 1164 (by decide +kernel) rfl, mz_tb 45 (by decide +kernel) rfl, mz_tb 1167 (by decide +kernel) rfl, by decide, by decide, by decide +kernel⟩
theorem li_X12_says : Cond.instanceMethod yX12_says ∈ mz_tbl ∧ Cond.selects RX12 yX12_says yX12_says ∈ mz_tbl := ⟨mz_tb 1165 (by decide +kernel) rfl, mz_tb 1166 (by decide +kernel) rfl⟩
section
variable {p : Program} {l : Launch} {e : Env} {s : State} {m : MethodId} {below : List Frame} {meth : Method} {c : Code} {H : Heap} {locs : List Loc} {cells slots : Nat} {Q : State → Prop} {ls : Array Slot} {g : mz_G} {b L : Nat} {xs : Nat → Int32} {VB o q k : Nat} {rs : mz_RS} {h : mz_H} {x3 : Int32}
set_option maxHeartbeats 4000000 in
set_option maxRecDepth 100000 in
theorem lc_4 (X : mz_X p g RL cL_law 4 (fun q : Nat => s.heap.size ≤ q) s m #[Value.ref b] c) (hX : va_X b L xs s s.heap) (hbl : b < s.heap.size) (hin : ∀ j : Nat, j < 8 → vp_in (x3 + nI j) L) (I : lw_I g s VB o q (k + 1) rs h H locs cells slots) (hl : mz_L ls 4 [(0, false, va_rf (some b)), (1, false, va_rf (some o)), (2, false, va_rf (some q)), (3, false, .int x3)]) (cont : ∀ rs' h' H' locs' cells' slots', lw_I g s VB o q k rs' h' H' locs' cells' slots' → W p l e room_1 s m #[Value.ref b] below meth c H' locs' cells' slots' Q (F0 m 1899 ls [])) : W p l e room_1 s m #[Value.ref b] below meth c H locs cells slots Q (F0 m 386 ls []) := by
  have hbA : ¬ (fun q : Nat => s.heap.size ≤ q) b := Nat.not_le.mpr hbl
  obtain ⟨r, h', kk, n, rs', e1, e2, I', z1, z2, z3, z4⟩ := k_says (q := q) I.1 (xs (x3 + 1).toNatClampNeg) (xs (x3 + 2).toNatClampNeg)
  refine mz_aload_n X dL_law_386 rfl (mz_at hl 1 rfl) ?_
  refine mz_aload_n X dL_law_387 rfl (mz_at hl 0 rfl) ?_
  refine lv_iload_n X.1 X.2.1 dL_law_388 rfl (mz_at hl 3 rfl) ?_
  refine lv_iconst (v := 1) X.1 X.2.1 dL_law_389 (by decide) ?_
  refine lv_iadd X.1 X.2.1 dL_law_390 ?_
  refine va_sld X.1 X.2.1 hX hbl hbA I.2.1.2.2.2 (hin 1 (by decide)) dL_law_391 ?_
  refine mz_aload_n X dL_law_392 rfl (mz_at hl 0 rfl) ?_
  refine lv_iload_n X.1 X.2.1 dL_law_393 rfl (mz_at hl 3 rfl) ?_
  refine lv_iconst (v := 2) X.1 X.2.1 dL_law_394 (by decide) ?_
  refine lv_iadd X.1 X.2.1 dL_law_395 ?_
  refine va_sld X.1 X.2.1 hX hbl hbA I.2.1.2.2.2 (hin 2 (by decide)) dL_law_396 ?_
  refine lw_x X I.2.1 I.1.is hl.1.1 [.int (xs (x3 + 1).toNatClampNeg), .int (xs (x3 + 2).toNatClampNeg)] (ct_X11_says l g h (some o) (xs (x3 + 1).toNatClampNeg) (xs (x3 + 2).toNatClampNeg) r h' kk n e1) lb_31 li_X11_says rfl ⟨Nat.le_of_ble_eq_true rfl, Nat.le_of_ble_eq_true rfl⟩ (lw_bud I I' z2 z3 z4) dL_law_397 rfl (fun H1 locs1 J => ?_)
  refine mz_aload_n X dL_law_400 rfl (mz_at hl 2 rfl) ?_
  refine mz_aload_n X dL_law_401 rfl (mz_at hl 0 rfl) ?_
  refine lv_iload_n X.1 X.2.1 dL_law_402 rfl (mz_at hl 3 rfl) ?_
  refine lv_iconst (v := 1) X.1 X.2.1 dL_law_403 (by decide) ?_
  refine lv_iadd X.1 X.2.1 dL_law_404 ?_
  refine va_sld X.1 X.2.1 hX hbl hbA J.2.2.2 (hin 1 (by decide)) dL_law_405 ?_
  refine mz_aload_n X dL_law_406 rfl (mz_at hl 0 rfl) ?_
  refine lv_iload_n X.1 X.2.1 dL_law_407 rfl (mz_at hl 3 rfl) ?_
  refine lv_iconst (v := 2) X.1 X.2.1 dL_law_408 (by decide) ?_
  refine lv_iadd X.1 X.2.1 dL_law_409 ?_
  refine va_sld X.1 X.2.1 hX hbl hbA J.2.2.2 (hin 2 (by decide)) dL_law_410 ?_
  refine lw_m X J hl.1.1 [.int (xs (x3 + 1).toNatClampNeg), .int (xs (x3 + 2).toNatClampNeg)] (ct_X12_says l g (mz_RH q h'.2 rs) (some q) (xs (x3 + 1).toNatClampNeg) (xs (x3 + 2).toNatClampNeg) r (mz_RH q h'.2 rs') 0 0 e2) lb_34 li_X12_says rfl ⟨Nat.le_of_ble_eq_true rfl, Nat.le_of_ble_eq_true rfl⟩ (lw_bud I I' z2 z3 z4) dL_law_411 rfl (fun H2 locs2 J2 => ?_)
  refine lv_icmp_eq (tgt := 1899) X.1 X.2.1 dL_law_414 (by decide) (fun _ => ?_) (fun z => absurd rfl z)
  exact cont _ _ _ _ _ _ (lw_next I I' z2 z3 z4 J2)
end
theorem dL_law_419 : decode cL_law 419 = .ok (.aload_n 1, 1) := by decide +kernel
theorem dL_law_420 : decode cL_law 420 = .ok (.aload_n 0, 1) := by decide +kernel
theorem dL_law_421 : decode cL_law 421 = .ok (.iload_n 3, 1) := by decide +kernel
theorem dL_law_422 : decode cL_law 422 = .ok (.iconst 1, 1) := by decide +kernel
theorem dL_law_423 : decode cL_law 423 = .ok (.iadd, 1) := by decide +kernel
theorem dL_law_424 : decode cL_law 424 = .ok (.iaload, 1) := by decide +kernel
theorem dL_law_425 : decode cL_law 425 = .ok (.aload_n 0, 1) := by decide +kernel
theorem dL_law_426 : decode cL_law 426 = .ok (.iload_n 3, 1) := by decide +kernel
theorem dL_law_427 : decode cL_law 427 = .ok (.iconst 2, 1) := by decide +kernel
theorem dL_law_428 : decode cL_law 428 = .ok (.iadd, 1) := by decide +kernel
theorem dL_law_429 : decode cL_law 429 = .ok (.iaload, 1) := by decide +kernel
theorem dL_law_430 : decode cL_law 430 = .ok (.invokevirtual 35, 3) := by decide +kernel
theorem dL_law_433 : decode cL_law 433 = .ok (.aload_n 2, 1) := by decide +kernel
theorem dL_law_434 : decode cL_law 434 = .ok (.aload_n 0, 1) := by decide +kernel
theorem dL_law_435 : decode cL_law 435 = .ok (.iload_n 3, 1) := by decide +kernel
theorem dL_law_436 : decode cL_law 436 = .ok (.iconst 1, 1) := by decide +kernel
theorem dL_law_437 : decode cL_law 437 = .ok (.iadd, 1) := by decide +kernel
theorem dL_law_438 : decode cL_law 438 = .ok (.iaload, 1) := by decide +kernel
theorem dL_law_439 : decode cL_law 439 = .ok (.aload_n 0, 1) := by decide +kernel
theorem dL_law_440 : decode cL_law 440 = .ok (.iload_n 3, 1) := by decide +kernel
theorem dL_law_441 : decode cL_law 441 = .ok (.iconst 2, 1) := by decide +kernel
theorem dL_law_442 : decode cL_law 442 = .ok (.iadd, 1) := by decide +kernel
theorem dL_law_443 : decode cL_law 443 = .ok (.iaload, 1) := by decide +kernel
theorem dL_law_444 : decode cL_law 444 = .ok (.invokevirtual 38, 3) := by decide +kernel
theorem dL_law_447 : decode cL_law 447 = .ok (.if_icmp .eq 1452, 3) := by decide +kernel
theorem lb_35 : mz_MB RL 35 yX11_way cX11_way 4 (some .int) 2 := ⟨mz_tb 399 (by decide +kernel) rfl, mz_tb 40 (by decide +kernel) rfl, mz_tb 402 (by decide +kernel) rfl, by decide, by decide, by decide +kernel⟩
theorem li_X11_way : Cond.instanceMethod yX11_way ∈ mz_tbl ∧ Cond.selects RX11 yX11_way yX11_way ∈ mz_tbl := ⟨mz_tb 400 (by decide +kernel) rfl, mz_tb 401 (by decide +kernel) rfl⟩
theorem lb_38 : mz_MB RL 38 yX12_way cX12_way 3 (some .int) 2 := ⟨mz_tb 1172 (by decide +kernel) rfl, mz_tb 45 (by decide +kernel) rfl, mz_tb 1175 (by decide +kernel) rfl, by decide, by decide, by decide +kernel⟩
theorem li_X12_way : Cond.instanceMethod yX12_way ∈ mz_tbl ∧ Cond.selects RX12 yX12_way yX12_way ∈ mz_tbl := ⟨mz_tb 1173 (by decide +kernel) rfl, mz_tb 1174 (by decide +kernel) rfl⟩
section
variable {p : Program} {l : Launch} {e : Env} {s : State} {m : MethodId} {below : List Frame} {meth : Method} {c : Code} {H : Heap} {locs : List Loc} {cells slots : Nat} {Q : State → Prop} {ls : Array Slot} {g : mz_G} {b L : Nat} {xs : Nat → Int32} {VB o q k : Nat} {rs : mz_RS} {h : mz_H} {x3 : Int32}
set_option maxHeartbeats 4000000 in
set_option maxRecDepth 100000 in
theorem lc_5 (X : mz_X p g RL cL_law 4 (fun q : Nat => s.heap.size ≤ q) s m #[Value.ref b] c) (hX : va_X b L xs s s.heap) (hbl : b < s.heap.size) (hin : ∀ j : Nat, j < 8 → vp_in (x3 + nI j) L) (I : lw_I g s VB o q (k + 1) rs h H locs cells slots) (hl : mz_L ls 4 [(0, false, va_rf (some b)), (1, false, va_rf (some o)), (2, false, va_rf (some q)), (3, false, .int x3)]) (cont : ∀ rs' h' H' locs' cells' slots', lw_I g s VB o q k rs' h' H' locs' cells' slots' → W p l e room_1 s m #[Value.ref b] below meth c H' locs' cells' slots' Q (F0 m 1899 ls [])) : W p l e room_1 s m #[Value.ref b] below meth c H locs cells slots Q (F0 m 419 ls []) := by
  have hbA : ¬ (fun q : Nat => s.heap.size ≤ q) b := Nat.not_le.mpr hbl
  obtain ⟨r, h', kk, n, rs', e1, e2, I', z1, z2, z3, z4⟩ := k_way (q := q) I.1 (xs (x3 + 1).toNatClampNeg) (xs (x3 + 2).toNatClampNeg)
  refine mz_aload_n X dL_law_419 rfl (mz_at hl 1 rfl) ?_
  refine mz_aload_n X dL_law_420 rfl (mz_at hl 0 rfl) ?_
  refine lv_iload_n X.1 X.2.1 dL_law_421 rfl (mz_at hl 3 rfl) ?_
  refine lv_iconst (v := 1) X.1 X.2.1 dL_law_422 (by decide) ?_
  refine lv_iadd X.1 X.2.1 dL_law_423 ?_
  refine va_sld X.1 X.2.1 hX hbl hbA I.2.1.2.2.2 (hin 1 (by decide)) dL_law_424 ?_
  refine mz_aload_n X dL_law_425 rfl (mz_at hl 0 rfl) ?_
  refine lv_iload_n X.1 X.2.1 dL_law_426 rfl (mz_at hl 3 rfl) ?_
  refine lv_iconst (v := 2) X.1 X.2.1 dL_law_427 (by decide) ?_
  refine lv_iadd X.1 X.2.1 dL_law_428 ?_
  refine va_sld X.1 X.2.1 hX hbl hbA I.2.1.2.2.2 (hin 2 (by decide)) dL_law_429 ?_
  refine lw_x X I.2.1 I.1.is hl.1.1 [.int (xs (x3 + 1).toNatClampNeg), .int (xs (x3 + 2).toNatClampNeg)] (ct_X11_way l g h (some o) (xs (x3 + 1).toNatClampNeg) (xs (x3 + 2).toNatClampNeg) r h' kk n e1) lb_35 li_X11_way rfl ⟨Nat.le_of_ble_eq_true rfl, Nat.le_of_ble_eq_true rfl⟩ (lw_bud I I' z2 z3 z4) dL_law_430 rfl (fun H1 locs1 J => ?_)
  refine mz_aload_n X dL_law_433 rfl (mz_at hl 2 rfl) ?_
  refine mz_aload_n X dL_law_434 rfl (mz_at hl 0 rfl) ?_
  refine lv_iload_n X.1 X.2.1 dL_law_435 rfl (mz_at hl 3 rfl) ?_
  refine lv_iconst (v := 1) X.1 X.2.1 dL_law_436 (by decide) ?_
  refine lv_iadd X.1 X.2.1 dL_law_437 ?_
  refine va_sld X.1 X.2.1 hX hbl hbA J.2.2.2 (hin 1 (by decide)) dL_law_438 ?_
  refine mz_aload_n X dL_law_439 rfl (mz_at hl 0 rfl) ?_
  refine lv_iload_n X.1 X.2.1 dL_law_440 rfl (mz_at hl 3 rfl) ?_
  refine lv_iconst (v := 2) X.1 X.2.1 dL_law_441 (by decide) ?_
  refine lv_iadd X.1 X.2.1 dL_law_442 ?_
  refine va_sld X.1 X.2.1 hX hbl hbA J.2.2.2 (hin 2 (by decide)) dL_law_443 ?_
  refine lw_m X J hl.1.1 [.int (xs (x3 + 1).toNatClampNeg), .int (xs (x3 + 2).toNatClampNeg)] (ct_X12_way l g (mz_RH q h'.2 rs) (some q) (xs (x3 + 1).toNatClampNeg) (xs (x3 + 2).toNatClampNeg) r (mz_RH q h'.2 rs') 0 0 e2) lb_38 li_X12_way rfl ⟨Nat.le_of_ble_eq_true rfl, Nat.le_of_ble_eq_true rfl⟩ (lw_bud I I' z2 z3 z4) dL_law_444 rfl (fun H2 locs2 J2 => ?_)
  refine lv_icmp_eq (tgt := 1899) X.1 X.2.1 dL_law_447 (by decide) (fun _ => ?_) (fun z => absurd rfl z)
  exact cont _ _ _ _ _ _ (lw_next I I' z2 z3 z4 J2)
end
theorem dL_law_452 : decode cL_law 452 = .ok (.aload_n 1, 1) := by decide +kernel
theorem dL_law_453 : decode cL_law 453 = .ok (.aload_n 0, 1) := by decide +kernel
theorem dL_law_454 : decode cL_law 454 = .ok (.iload_n 3, 1) := by decide +kernel
theorem dL_law_455 : decode cL_law 455 = .ok (.iconst 1, 1) := by decide +kernel
theorem dL_law_456 : decode cL_law 456 = .ok (.iadd, 1) := by decide +kernel
theorem dL_law_457 : decode cL_law 457 = .ok (.iaload, 1) := by decide +kernel
theorem dL_law_458 : decode cL_law 458 = .ok (.aload_n 0, 1) := by decide +kernel
theorem dL_law_459 : decode cL_law 459 = .ok (.iload_n 3, 1) := by decide +kernel
theorem dL_law_460 : decode cL_law 460 = .ok (.iconst 2, 1) := by decide +kernel
theorem dL_law_461 : decode cL_law 461 = .ok (.iadd, 1) := by decide +kernel
theorem dL_law_462 : decode cL_law 462 = .ok (.iaload, 1) := by decide +kernel
theorem dL_law_463 : decode cL_law 463 = .ok (.invokevirtual 39, 3) := by decide +kernel
theorem dL_law_466 : decode cL_law 466 = .ok (.aload_n 2, 1) := by decide +kernel
theorem dL_law_467 : decode cL_law 467 = .ok (.aload_n 0, 1) := by decide +kernel
theorem dL_law_468 : decode cL_law 468 = .ok (.iload_n 3, 1) := by decide +kernel
theorem dL_law_469 : decode cL_law 469 = .ok (.iconst 1, 1) := by decide +kernel
theorem dL_law_470 : decode cL_law 470 = .ok (.iadd, 1) := by decide +kernel
theorem dL_law_471 : decode cL_law 471 = .ok (.iaload, 1) := by decide +kernel
theorem dL_law_472 : decode cL_law 472 = .ok (.aload_n 0, 1) := by decide +kernel
theorem dL_law_473 : decode cL_law 473 = .ok (.iload_n 3, 1) := by decide +kernel
theorem dL_law_474 : decode cL_law 474 = .ok (.iconst 2, 1) := by decide +kernel
theorem dL_law_475 : decode cL_law 475 = .ok (.iadd, 1) := by decide +kernel
theorem dL_law_476 : decode cL_law 476 = .ok (.iaload, 1) := by decide +kernel
theorem dL_law_477 : decode cL_law 477 = .ok (.invokevirtual 42, 3) := by decide +kernel
theorem dL_law_480 : decode cL_law 480 = .ok (.if_icmp .eq 1419, 3) := by decide +kernel
theorem lb_39 : mz_MB RL 39 yX11_below cX11_below 3 (some .int) 2 := ⟨mz_tb 403 (by decide +kernel) rfl, mz_tb 40 (by decide +kernel) rfl, mz_tb 406 (by decide +kernel) rfl, by decide, by decide, by decide +kernel⟩
theorem li_X11_below : Cond.instanceMethod yX11_below ∈ mz_tbl ∧ Cond.selects RX11 yX11_below yX11_below ∈ mz_tbl := ⟨mz_tb 404 (by decide +kernel) rfl, mz_tb 405 (by decide +kernel) rfl⟩
theorem lb_42 : mz_MB RL 42 yX12_below cX12_below 3 (some .int) 2 := ⟨mz_tb 1176 (by decide +kernel) rfl, mz_tb 45 (by decide +kernel) rfl, mz_tb 1179 (by decide +kernel) rfl, by decide, by decide, by decide +kernel⟩
theorem li_X12_below : Cond.instanceMethod yX12_below ∈ mz_tbl ∧ Cond.selects RX12 yX12_below yX12_below ∈ mz_tbl := ⟨mz_tb 1177 (by decide +kernel) rfl, mz_tb 1178 (by decide +kernel) rfl⟩
section
variable {p : Program} {l : Launch} {e : Env} {s : State} {m : MethodId} {below : List Frame} {meth : Method} {c : Code} {H : Heap} {locs : List Loc} {cells slots : Nat} {Q : State → Prop} {ls : Array Slot} {g : mz_G} {b L : Nat} {xs : Nat → Int32} {VB o q k : Nat} {rs : mz_RS} {h : mz_H} {x3 : Int32}
set_option maxHeartbeats 4000000 in
set_option maxRecDepth 100000 in
theorem lc_6 (X : mz_X p g RL cL_law 4 (fun q : Nat => s.heap.size ≤ q) s m #[Value.ref b] c) (hX : va_X b L xs s s.heap) (hbl : b < s.heap.size) (hin : ∀ j : Nat, j < 8 → vp_in (x3 + nI j) L) (I : lw_I g s VB o q (k + 1) rs h H locs cells slots) (hl : mz_L ls 4 [(0, false, va_rf (some b)), (1, false, va_rf (some o)), (2, false, va_rf (some q)), (3, false, .int x3)]) (cont : ∀ rs' h' H' locs' cells' slots', lw_I g s VB o q k rs' h' H' locs' cells' slots' → W p l e room_1 s m #[Value.ref b] below meth c H' locs' cells' slots' Q (F0 m 1899 ls [])) : W p l e room_1 s m #[Value.ref b] below meth c H locs cells slots Q (F0 m 452 ls []) := by
  have hbA : ¬ (fun q : Nat => s.heap.size ≤ q) b := Nat.not_le.mpr hbl
  obtain ⟨r, h', kk, n, rs', e1, e2, I', z1, z2, z3, z4⟩ := k_below (q := q) I.1 (xs (x3 + 1).toNatClampNeg) (xs (x3 + 2).toNatClampNeg)
  refine mz_aload_n X dL_law_452 rfl (mz_at hl 1 rfl) ?_
  refine mz_aload_n X dL_law_453 rfl (mz_at hl 0 rfl) ?_
  refine lv_iload_n X.1 X.2.1 dL_law_454 rfl (mz_at hl 3 rfl) ?_
  refine lv_iconst (v := 1) X.1 X.2.1 dL_law_455 (by decide) ?_
  refine lv_iadd X.1 X.2.1 dL_law_456 ?_
  refine va_sld X.1 X.2.1 hX hbl hbA I.2.1.2.2.2 (hin 1 (by decide)) dL_law_457 ?_
  refine mz_aload_n X dL_law_458 rfl (mz_at hl 0 rfl) ?_
  refine lv_iload_n X.1 X.2.1 dL_law_459 rfl (mz_at hl 3 rfl) ?_
  refine lv_iconst (v := 2) X.1 X.2.1 dL_law_460 (by decide) ?_
  refine lv_iadd X.1 X.2.1 dL_law_461 ?_
  refine va_sld X.1 X.2.1 hX hbl hbA I.2.1.2.2.2 (hin 2 (by decide)) dL_law_462 ?_
  refine lw_x X I.2.1 I.1.is hl.1.1 [.int (xs (x3 + 1).toNatClampNeg), .int (xs (x3 + 2).toNatClampNeg)] (ct_X11_below l g h (some o) (xs (x3 + 1).toNatClampNeg) (xs (x3 + 2).toNatClampNeg) r h' kk n e1) lb_39 li_X11_below rfl ⟨Nat.le_of_ble_eq_true rfl, Nat.le_of_ble_eq_true rfl⟩ (lw_bud I I' z2 z3 z4) dL_law_463 rfl (fun H1 locs1 J => ?_)
  refine mz_aload_n X dL_law_466 rfl (mz_at hl 2 rfl) ?_
  refine mz_aload_n X dL_law_467 rfl (mz_at hl 0 rfl) ?_
  refine lv_iload_n X.1 X.2.1 dL_law_468 rfl (mz_at hl 3 rfl) ?_
  refine lv_iconst (v := 1) X.1 X.2.1 dL_law_469 (by decide) ?_
  refine lv_iadd X.1 X.2.1 dL_law_470 ?_
  refine va_sld X.1 X.2.1 hX hbl hbA J.2.2.2 (hin 1 (by decide)) dL_law_471 ?_
  refine mz_aload_n X dL_law_472 rfl (mz_at hl 0 rfl) ?_
  refine lv_iload_n X.1 X.2.1 dL_law_473 rfl (mz_at hl 3 rfl) ?_
  refine lv_iconst (v := 2) X.1 X.2.1 dL_law_474 (by decide) ?_
  refine lv_iadd X.1 X.2.1 dL_law_475 ?_
  refine va_sld X.1 X.2.1 hX hbl hbA J.2.2.2 (hin 2 (by decide)) dL_law_476 ?_
  refine lw_m X J hl.1.1 [.int (xs (x3 + 1).toNatClampNeg), .int (xs (x3 + 2).toNatClampNeg)] (ct_X12_below l g (mz_RH q h'.2 rs) (some q) (xs (x3 + 1).toNatClampNeg) (xs (x3 + 2).toNatClampNeg) r (mz_RH q h'.2 rs') 0 0 e2) lb_42 li_X12_below rfl ⟨Nat.le_of_ble_eq_true rfl, Nat.le_of_ble_eq_true rfl⟩ (lw_bud I I' z2 z3 z4) dL_law_477 rfl (fun H2 locs2 J2 => ?_)
  refine lv_icmp_eq (tgt := 1899) X.1 X.2.1 dL_law_480 (by decide) (fun _ => ?_) (fun z => absurd rfl z)
  exact cont _ _ _ _ _ _ (lw_next I I' z2 z3 z4 J2)
end
theorem dL_law_485 : decode cL_law 485 = .ok (.aload_n 1, 1) := by decide +kernel
theorem dL_law_486 : decode cL_law 486 = .ok (.aload_n 0, 1) := by decide +kernel
theorem dL_law_487 : decode cL_law 487 = .ok (.iload_n 3, 1) := by decide +kernel
theorem dL_law_488 : decode cL_law 488 = .ok (.iconst 1, 1) := by decide +kernel
theorem dL_law_489 : decode cL_law 489 = .ok (.iadd, 1) := by decide +kernel
theorem dL_law_490 : decode cL_law 490 = .ok (.iaload, 1) := by decide +kernel
theorem dL_law_491 : decode cL_law 491 = .ok (.invokevirtual 43, 3) := by decide +kernel
theorem dL_law_494 : decode cL_law 494 = .ok (.aload_n 2, 1) := by decide +kernel
theorem dL_law_495 : decode cL_law 495 = .ok (.aload_n 0, 1) := by decide +kernel
theorem dL_law_496 : decode cL_law 496 = .ok (.iload_n 3, 1) := by decide +kernel
theorem dL_law_497 : decode cL_law 497 = .ok (.iconst 1, 1) := by decide +kernel
theorem dL_law_498 : decode cL_law 498 = .ok (.iadd, 1) := by decide +kernel
theorem dL_law_499 : decode cL_law 499 = .ok (.iaload, 1) := by decide +kernel
theorem dL_law_500 : decode cL_law 500 = .ok (.invokevirtual 47, 3) := by decide +kernel
theorem dL_law_503 : decode cL_law 503 = .ok (.if_icmp .eq 1396, 3) := by decide +kernel
theorem lb_43 : mz_MB RL 43 yX11_scan cX11_scan 2 (some .int) 1 := ⟨mz_tb 407 (by decide +kernel) rfl, mz_tb 40 (by decide +kernel) rfl, mz_tb 410 (by decide +kernel) rfl, by decide, by decide, by decide +kernel⟩
theorem li_X11_scan : Cond.instanceMethod yX11_scan ∈ mz_tbl ∧ Cond.selects RX11 yX11_scan yX11_scan ∈ mz_tbl := ⟨mz_tb 408 (by decide +kernel) rfl, mz_tb 409 (by decide +kernel) rfl⟩
theorem lb_47 : mz_MB RL 47 yX12_scan cX12_scan 3 (some .int) 1 := ⟨mz_tb 1180 (by decide +kernel) rfl, mz_tb 45 (by decide +kernel) rfl, mz_tb 1183 (by decide +kernel) rfl, by decide, by decide, by decide +kernel⟩
theorem li_X12_scan : Cond.instanceMethod yX12_scan ∈ mz_tbl ∧ Cond.selects RX12 yX12_scan yX12_scan ∈ mz_tbl := ⟨mz_tb 1181 (by decide +kernel) rfl, mz_tb 1182 (by decide +kernel) rfl⟩
section
variable {p : Program} {l : Launch} {e : Env} {s : State} {m : MethodId} {below : List Frame} {meth : Method} {c : Code} {H : Heap} {locs : List Loc} {cells slots : Nat} {Q : State → Prop} {ls : Array Slot} {g : mz_G} {b L : Nat} {xs : Nat → Int32} {VB o q k : Nat} {rs : mz_RS} {h : mz_H} {x3 : Int32}
set_option maxHeartbeats 4000000 in
set_option maxRecDepth 100000 in
theorem lc_7 (X : mz_X p g RL cL_law 4 (fun q : Nat => s.heap.size ≤ q) s m #[Value.ref b] c) (hX : va_X b L xs s s.heap) (hbl : b < s.heap.size) (hin : ∀ j : Nat, j < 8 → vp_in (x3 + nI j) L) (I : lw_I g s VB o q (k + 1) rs h H locs cells slots) (hl : mz_L ls 4 [(0, false, va_rf (some b)), (1, false, va_rf (some o)), (2, false, va_rf (some q)), (3, false, .int x3)]) (cont : ∀ rs' h' H' locs' cells' slots', lw_I g s VB o q k rs' h' H' locs' cells' slots' → W p l e room_1 s m #[Value.ref b] below meth c H' locs' cells' slots' Q (F0 m 1899 ls [])) : W p l e room_1 s m #[Value.ref b] below meth c H locs cells slots Q (F0 m 485 ls []) := by
  have hbA : ¬ (fun q : Nat => s.heap.size ≤ q) b := Nat.not_le.mpr hbl
  obtain ⟨r, h', kk, n, rs', e1, e2, I', z1, z2, z3, z4⟩ := k_scan (q := q) I.1 (xs (x3 + 1).toNatClampNeg)
  refine mz_aload_n X dL_law_485 rfl (mz_at hl 1 rfl) ?_
  refine mz_aload_n X dL_law_486 rfl (mz_at hl 0 rfl) ?_
  refine lv_iload_n X.1 X.2.1 dL_law_487 rfl (mz_at hl 3 rfl) ?_
  refine lv_iconst (v := 1) X.1 X.2.1 dL_law_488 (by decide) ?_
  refine lv_iadd X.1 X.2.1 dL_law_489 ?_
  refine va_sld X.1 X.2.1 hX hbl hbA I.2.1.2.2.2 (hin 1 (by decide)) dL_law_490 ?_
  refine lw_x X I.2.1 I.1.is hl.1.1 [.int (xs (x3 + 1).toNatClampNeg)] (ct_X11_scan l g h (some o) (xs (x3 + 1).toNatClampNeg) r h' kk n e1) lb_43 li_X11_scan rfl ⟨Nat.le_of_ble_eq_true rfl, Nat.le_of_ble_eq_true rfl⟩ (lw_bud I I' z2 z3 z4) dL_law_491 rfl (fun H1 locs1 J => ?_)
  refine mz_aload_n X dL_law_494 rfl (mz_at hl 2 rfl) ?_
  refine mz_aload_n X dL_law_495 rfl (mz_at hl 0 rfl) ?_
  refine lv_iload_n X.1 X.2.1 dL_law_496 rfl (mz_at hl 3 rfl) ?_
  refine lv_iconst (v := 1) X.1 X.2.1 dL_law_497 (by decide) ?_
  refine lv_iadd X.1 X.2.1 dL_law_498 ?_
  refine va_sld X.1 X.2.1 hX hbl hbA J.2.2.2 (hin 1 (by decide)) dL_law_499 ?_
  refine lw_m X J hl.1.1 [.int (xs (x3 + 1).toNatClampNeg)] (ct_X12_scan l g (mz_RH q h'.2 rs) (some q) (xs (x3 + 1).toNatClampNeg) r (mz_RH q h'.2 rs') 0 0 e2) lb_47 li_X12_scan rfl ⟨Nat.le_of_ble_eq_true rfl, Nat.le_of_ble_eq_true rfl⟩ (lw_bud I I' z2 z3 z4) dL_law_500 rfl (fun H2 locs2 J2 => ?_)
  refine lv_icmp_eq (tgt := 1899) X.1 X.2.1 dL_law_503 (by decide) (fun _ => ?_) (fun z => absurd rfl z)
  exact cont _ _ _ _ _ _ (lw_next I I' z2 z3 z4 J2)
end
theorem dL_law_508 : decode cL_law 508 = .ok (.aload_n 1, 1) := by decide +kernel
theorem dL_law_509 : decode cL_law 509 = .ok (.aload_n 0, 1) := by decide +kernel
theorem dL_law_510 : decode cL_law 510 = .ok (.iload_n 3, 1) := by decide +kernel
theorem dL_law_511 : decode cL_law 511 = .ok (.iconst 1, 1) := by decide +kernel
theorem dL_law_512 : decode cL_law 512 = .ok (.iadd, 1) := by decide +kernel
theorem dL_law_513 : decode cL_law 513 = .ok (.iaload, 1) := by decide +kernel
theorem dL_law_514 : decode cL_law 514 = .ok (.invokevirtual 48, 3) := by decide +kernel
theorem dL_law_517 : decode cL_law 517 = .ok (.aload_n 2, 1) := by decide +kernel
theorem dL_law_518 : decode cL_law 518 = .ok (.aload_n 0, 1) := by decide +kernel
theorem dL_law_519 : decode cL_law 519 = .ok (.iload_n 3, 1) := by decide +kernel
theorem dL_law_520 : decode cL_law 520 = .ok (.iconst 1, 1) := by decide +kernel
theorem dL_law_521 : decode cL_law 521 = .ok (.iadd, 1) := by decide +kernel
theorem dL_law_522 : decode cL_law 522 = .ok (.iaload, 1) := by decide +kernel
theorem dL_law_523 : decode cL_law 523 = .ok (.invokevirtual 51, 3) := by decide +kernel
theorem dL_law_526 : decode cL_law 526 = .ok (.if_icmp .eq 1373, 3) := by decide +kernel
theorem lb_48 : mz_MB RL 48 yX11_broken cX11_broken 2 (some .int) 1 := ⟨mz_tb 458 (by decide +kernel) rfl, mz_tb 40 (by decide +kernel) rfl, mz_tb 461 (by decide +kernel) rfl, by decide, by decide, by decide +kernel⟩
theorem li_X11_broken : Cond.instanceMethod yX11_broken ∈ mz_tbl ∧ Cond.selects RX11 yX11_broken yX11_broken ∈ mz_tbl := ⟨mz_tb 459 (by decide +kernel) rfl, mz_tb 460 (by decide +kernel) rfl⟩
theorem lb_51 : mz_MB RL 51 yX12_broken cX12_broken 2 (some .int) 1 := ⟨mz_tb 1204 (by decide +kernel) rfl, mz_tb 45 (by decide +kernel) rfl, mz_tb 1207 (by decide +kernel) rfl, by decide, by decide, by decide +kernel⟩
theorem li_X12_broken : Cond.instanceMethod yX12_broken ∈ mz_tbl ∧ Cond.selects RX12 yX12_broken yX12_broken ∈ mz_tbl := ⟨mz_tb 1205 (by decide +kernel) rfl, mz_tb 1206 (by decide +kernel) rfl⟩
section
variable {p : Program} {l : Launch} {e : Env} {s : State} {m : MethodId} {below : List Frame} {meth : Method} {c : Code} {H : Heap} {locs : List Loc} {cells slots : Nat} {Q : State → Prop} {ls : Array Slot} {g : mz_G} {b L : Nat} {xs : Nat → Int32} {VB o q k : Nat} {rs : mz_RS} {h : mz_H} {x3 : Int32}
set_option maxHeartbeats 4000000 in
set_option maxRecDepth 100000 in
theorem lc_8 (X : mz_X p g RL cL_law 4 (fun q : Nat => s.heap.size ≤ q) s m #[Value.ref b] c) (hX : va_X b L xs s s.heap) (hbl : b < s.heap.size) (hin : ∀ j : Nat, j < 8 → vp_in (x3 + nI j) L) (I : lw_I g s VB o q (k + 1) rs h H locs cells slots) (hl : mz_L ls 4 [(0, false, va_rf (some b)), (1, false, va_rf (some o)), (2, false, va_rf (some q)), (3, false, .int x3)]) (cont : ∀ rs' h' H' locs' cells' slots', lw_I g s VB o q k rs' h' H' locs' cells' slots' → W p l e room_1 s m #[Value.ref b] below meth c H' locs' cells' slots' Q (F0 m 1899 ls [])) : W p l e room_1 s m #[Value.ref b] below meth c H locs cells slots Q (F0 m 508 ls []) := by
  have hbA : ¬ (fun q : Nat => s.heap.size ≤ q) b := Nat.not_le.mpr hbl
  obtain ⟨r, h', kk, n, rs', e1, e2, I', z1, z2, z3, z4⟩ := k_broken (q := q) I.1 (xs (x3 + 1).toNatClampNeg)
  refine mz_aload_n X dL_law_508 rfl (mz_at hl 1 rfl) ?_
  refine mz_aload_n X dL_law_509 rfl (mz_at hl 0 rfl) ?_
  refine lv_iload_n X.1 X.2.1 dL_law_510 rfl (mz_at hl 3 rfl) ?_
  refine lv_iconst (v := 1) X.1 X.2.1 dL_law_511 (by decide) ?_
  refine lv_iadd X.1 X.2.1 dL_law_512 ?_
  refine va_sld X.1 X.2.1 hX hbl hbA I.2.1.2.2.2 (hin 1 (by decide)) dL_law_513 ?_
  refine lw_x X I.2.1 I.1.is hl.1.1 [.int (xs (x3 + 1).toNatClampNeg)] (ct_X11_broken l g h (some o) (xs (x3 + 1).toNatClampNeg) r h' kk n e1) lb_48 li_X11_broken rfl ⟨Nat.le_of_ble_eq_true rfl, Nat.le_of_ble_eq_true rfl⟩ (lw_bud I I' z2 z3 z4) dL_law_514 rfl (fun H1 locs1 J => ?_)
  refine mz_aload_n X dL_law_517 rfl (mz_at hl 2 rfl) ?_
  refine mz_aload_n X dL_law_518 rfl (mz_at hl 0 rfl) ?_
  refine lv_iload_n X.1 X.2.1 dL_law_519 rfl (mz_at hl 3 rfl) ?_
  refine lv_iconst (v := 1) X.1 X.2.1 dL_law_520 (by decide) ?_
  refine lv_iadd X.1 X.2.1 dL_law_521 ?_
  refine va_sld X.1 X.2.1 hX hbl hbA J.2.2.2 (hin 1 (by decide)) dL_law_522 ?_
  refine lw_m X J hl.1.1 [.int (xs (x3 + 1).toNatClampNeg)] (ct_X12_broken l g (mz_RH q h'.2 rs) (some q) (xs (x3 + 1).toNatClampNeg) r (mz_RH q h'.2 rs') 0 0 e2) lb_51 li_X12_broken rfl ⟨Nat.le_of_ble_eq_true rfl, Nat.le_of_ble_eq_true rfl⟩ (lw_bud I I' z2 z3 z4) dL_law_523 rfl (fun H2 locs2 J2 => ?_)
  refine lv_icmp_eq (tgt := 1899) X.1 X.2.1 dL_law_526 (by decide) (fun _ => ?_) (fun z => absurd rfl z)
  exact cont _ _ _ _ _ _ (lw_next I I' z2 z3 z4 J2)
end

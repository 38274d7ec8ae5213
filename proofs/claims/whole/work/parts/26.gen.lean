/-! X12_areCellsAlike X12_areSlotsAlike X12_alike X12_find X12_column X12_cell -/
section
variable {p : Program} {l : Launch} {e : Env} {s : State} {m : MethodId} {args : Array Value} {below : List Frame} {meth : Method} {c : Code} {g : mz_G} {h0 hf : mz_H} {DC DS : Nat}
theorem dX12_areCellsAlike_0 : decode cX12_areCellsAlike 0 = .ok (.iconst 1, 1) := by decide +kernel
theorem dX12_areCellsAlike_1 : decode cX12_areCellsAlike 1 = .ok (.istore 5, 2) := by decide +kernel
theorem dX12_areCellsAlike_3 : decode cX12_areCellsAlike 3 = .ok (.iconst 0, 1) := by decide +kernel
theorem dX12_areCellsAlike_4 : decode cX12_areCellsAlike 4 = .ok (.istore 6, 2) := by decide +kernel
theorem dX12_areCellsAlike_6 : decode cX12_areCellsAlike 6 = .ok (.iload 6, 2) := by decide +kernel
theorem dX12_areCellsAlike_8 : decode cX12_areCellsAlike 8 = .ok (.iload 4, 2) := by decide +kernel
theorem dX12_areCellsAlike_10 : decode cX12_areCellsAlike 10 = .ok (.if_icmp .ge 53, 3) := by decide +kernel
theorem dX12_areCellsAlike_13 : decode cX12_areCellsAlike 13 = .ok (.iload 5, 2) := by decide +kernel
theorem dX12_areCellsAlike_15 : decode cX12_areCellsAlike 15 = .ok (.aload_n 0, 1) := by decide +kernel
theorem dX12_areCellsAlike_16 : decode cX12_areCellsAlike 16 = .ok (.getfield 106, 3) := by decide +kernel
theorem dX12_areCellsAlike_19 : decode cX12_areCellsAlike 19 = .ok (.sipush 900, 3) := by decide +kernel
theorem dX12_areCellsAlike_22 : decode cX12_areCellsAlike 22 = .ok (.iload_n 1, 1) := by decide +kernel
theorem dX12_areCellsAlike_23 : decode cX12_areCellsAlike 23 = .ok (.imul, 1) := by decide +kernel
theorem dX12_areCellsAlike_24 : decode cX12_areCellsAlike 24 = .ok (.iload_n 3, 1) := by decide +kernel
theorem dX12_areCellsAlike_25 : decode cX12_areCellsAlike 25 = .ok (.iadd, 1) := by decide +kernel
theorem dX12_areCellsAlike_26 : decode cX12_areCellsAlike 26 = .ok (.iload 6, 2) := by decide +kernel
theorem dX12_areCellsAlike_28 : decode cX12_areCellsAlike 28 = .ok (.iadd, 1) := by decide +kernel
theorem dX12_areCellsAlike_29 : decode cX12_areCellsAlike 29 = .ok (.laload, 1) := by decide +kernel
theorem dX12_areCellsAlike_30 : decode cX12_areCellsAlike 30 = .ok (.aload_n 0, 1) := by decide +kernel
theorem dX12_areCellsAlike_31 : decode cX12_areCellsAlike 31 = .ok (.getfield 106, 3) := by decide +kernel
theorem dX12_areCellsAlike_34 : decode cX12_areCellsAlike 34 = .ok (.sipush 900, 3) := by decide +kernel
theorem dX12_areCellsAlike_37 : decode cX12_areCellsAlike 37 = .ok (.iload_n 2, 1) := by decide +kernel
theorem dX12_areCellsAlike_38 : decode cX12_areCellsAlike 38 = .ok (.imul, 1) := by decide +kernel
theorem dX12_areCellsAlike_39 : decode cX12_areCellsAlike 39 = .ok (.iload_n 3, 1) := by decide +kernel
theorem dX12_areCellsAlike_40 : decode cX12_areCellsAlike 40 = .ok (.iadd, 1) := by decide +kernel
theorem dX12_areCellsAlike_41 : decode cX12_areCellsAlike 41 = .ok (.iload 6, 2) := by decide +kernel
theorem dX12_areCellsAlike_43 : decode cX12_areCellsAlike 43 = .ok (.iadd, 1) := by decide +kernel
theorem dX12_areCellsAlike_44 : decode cX12_areCellsAlike 44 = .ok (.laload, 1) := by decide +kernel
theorem dX12_areCellsAlike_45 : decode cX12_areCellsAlike 45 = .ok (.lcmp, 1) := by decide +kernel
theorem dX12_areCellsAlike_46 : decode cX12_areCellsAlike 46 = .ok (.ifCond .ne 7, 3) := by decide +kernel
theorem dX12_areCellsAlike_49 : decode cX12_areCellsAlike 49 = .ok (.iconst 1, 1) := by decide +kernel
theorem dX12_areCellsAlike_50 : decode cX12_areCellsAlike 50 = .ok (.goto 4, 3) := by decide +kernel
theorem dX12_areCellsAlike_53 : decode cX12_areCellsAlike 53 = .ok (.iconst 0, 1) := by decide +kernel
theorem dX12_areCellsAlike_54 : decode cX12_areCellsAlike 54 = .ok (.iand, 1) := by decide +kernel
theorem dX12_areCellsAlike_55 : decode cX12_areCellsAlike 55 = .ok (.istore 5, 2) := by decide +kernel
theorem dX12_areCellsAlike_57 : decode cX12_areCellsAlike 57 = .ok (.iinc 6 1, 3) := by decide +kernel
theorem dX12_areCellsAlike_60 : decode cX12_areCellsAlike 60 = .ok (.goto (-54), 3) := by decide +kernel
theorem dX12_areCellsAlike_63 : decode cX12_areCellsAlike 63 = .ok (.iload 5, 2) := by decide +kernel
theorem dX12_areCellsAlike_65 : decode cX12_areCellsAlike 65 = .ok (.ireturn, 1) := by decide +kernel
def fn_X12_areCellsAlike_b54 (rc6 : mz_H → (Option Nat) → Int32 → Int32 → Int32 → Int32 → Int32 → Int32 → mz_Res Int32) (h : mz_H) (a0 : (Option Nat)) (x1 : Int32) (x2 : Int32) (x3 : Int32) (x4 : Int32) (x6 : Int32) (s0 : Int32) (s1 : Int32) : mz_Res Int32 :=
  mz_op (some (s0 &&& s1)) fun v1 =>
  mz_op (some (x6 + 1)) fun v2 =>
  rc6 h a0 x1 x2 x3 x4 v1 v2
set_option maxHeartbeats 4000000 in
set_option maxRecDepth 100000 in
theorem pf_X12_areCellsAlike_b54 (r : Int32) (Y : mz_Y p g RX12 cX12_areCellsAlike 7 (some .boolean) "areCellsAlike" (mz_AF h0) s m args meth c) {rc6 : mz_H → (Option Nat) → Int32 → Int32 → Int32 → Int32 → Int32 → Int32 → mz_Res Int32} (hrc6 : ∀ (h : mz_H) (a0 : (Option Nat)) (x1 : Int32) (x2 : Int32) (x3 : Int32) (x4 : Int32) (x5 : Int32) (x6 : Int32) (dc ds : Nat), rc6 h a0 x1 x2 x3 x4 x5 x6 = some (r, hf, dc, ds) → mz_Go l g p e s m args below meth c 0 0 DC DS h0 (some (Value.int r)) hf 7 6 [(0, false, va_rf a0), (1, false, .int x1), (2, false, .int x2), (3, false, .int x3), (4, false, .int x4), (5, false, .int x5), (6, false, .int x6)] [] h dc ds) (h : mz_H) (a0 : (Option Nat)) (x1 : Int32) (x2 : Int32) (x3 : Int32) (x4 : Int32) (x6 : Int32) (s0 : Int32) (s1 : Int32) (dc ds : Nat) (hr : fn_X12_areCellsAlike_b54 rc6 h a0 x1 x2 x3 x4 x6 s0 s1 = some (r, hf, dc, ds)) : mz_Go l g p e s m args below meth c 0 0 DC DS h0 (some (Value.int r)) hf 7 54 [(0, false, va_rf a0), (1, false, .int x1), (2, false, .int x2), (3, false, .int x3), (4, false, .int x4), (6, false, .int x6)] [.int s1, .int s0] h dc ds := by
  unfold fn_X12_areCellsAlike_b54 at hr
  intro H locs cells slots ls hH hS hl hc hs
  have X := Y.1
  refine lv_iand X.1 X.2.1 dX12_areCellsAlike_54 ?_
  refine mz_topi hr (fun v1 hv1 hr => ?_)
  refine mz_istore X [(5, false, .int v1), (0, false, va_rf a0), (1, false, .int x1), (2, false, .int x2), (3, false, .int x3), (4, false, .int x4), (6, false, .int x6)] dX12_areCellsAlike_55 hl (by decide) rfl (fun ls hl => ?_)
  obtain ⟨v2, hv2, hr⟩ := mz_op_some hr
  have hv2 := Option.some.inj hv2
  refine mz_iinc (k := 6) X [(6, false, .int v2), (5, false, .int v1), (0, false, va_rf a0), (1, false, .int x1), (2, false, .int x2), (3, false, .int x3), (4, false, .int x4)] v2 dX12_areCellsAlike_57 hl rfl hv2 (by decide) rfl (fun ls hl => ?_)
  refine lv_goto (tgt := 6) X.1 X.2.1 dX12_areCellsAlike_60 (by decide) ?_
  exact hrc6 h a0 x1 x2 x3 x4 v1 v2 _ _ hr H locs cells slots ls hH hS (mz_sub hl [2, 3, 4, 5, 6, 1, 0] rfl) hc hs
def fn_X12_areCellsAlike_b6 : Nat → mz_H → (Option Nat) → Int32 → Int32 → Int32 → Int32 → Int32 → Int32 → mz_Res Int32
  | 0, _, _, _, _, _, _, _, _ => none
  | n + 1, h, a0, x1, x2, x3, x4, x5, x6 =>
    if x4 ≤ x6 then
      mz_chk (x5 &&& 1 == x5) (mz_ret x5 h)
    else
      mz_op (mz_fR h a0 11 43) fun v1 =>
      mz_op (mz_aJ h v1 (((900 * x1) + x3) + x6)) fun v2 =>
      mz_op (mz_fR h a0 11 43) fun v3 =>
      mz_op (mz_aJ h v3 (((900 * x2) + x3) + x6)) fun v4 =>
      if (lg_cmp v2 v4) = 0 then
        fn_X12_areCellsAlike_b54 (fn_X12_areCellsAlike_b6 n) h a0 x1 x2 x3 x4 x6 x5 1
      else
        fn_X12_areCellsAlike_b54 (fn_X12_areCellsAlike_b6 n) h a0 x1 x2 x3 x4 x6 x5 0
set_option maxHeartbeats 4000000 in
set_option maxRecDepth 100000 in
theorem pf_X12_areCellsAlike_b6 (r : Int32) (Y : mz_Y p g RX12 cX12_areCellsAlike 7 (some .boolean) "areCellsAlike" (mz_AF h0) s m args meth c) : ∀ (n : Nat) (h : mz_H) (a0 : (Option Nat)) (x1 : Int32) (x2 : Int32) (x3 : Int32) (x4 : Int32) (x5 : Int32) (x6 : Int32) (dc ds : Nat), fn_X12_areCellsAlike_b6 n h a0 x1 x2 x3 x4 x5 x6 = some (r, hf, dc, ds) → mz_Go l g p e s m args below meth c 0 0 DC DS h0 (some (Value.int r)) hf 7 6 [(0, false, va_rf a0), (1, false, .int x1), (2, false, .int x2), (3, false, .int x3), (4, false, .int x4), (5, false, .int x5), (6, false, .int x6)] [] h dc ds := by
  have X := Y.1
  intro n
  induction n with
  | zero => intro h a0 x1 x2 x3 x4 x5 x6 dc ds hr; simp [fn_X12_areCellsAlike_b6] at hr
  | succ n ih =>
    intro h a0 x1 x2 x3 x4 x5 x6 dc ds hr
    rw [fn_X12_areCellsAlike_b6] at hr
    intro H locs cells slots ls hH hS hl hc hs
    refine lv_iload X.1 X.2.1 dX12_areCellsAlike_6 (mz_at hl 6 rfl) ?_
    refine lv_iload X.1 X.2.1 dX12_areCellsAlike_8 (mz_at hl 4 rfl) ?_
    refine mz_icmp_ge X 63 dX12_areCellsAlike_10 (by decide) hr (fun hr => ?_) (fun hr => ?_)
    · refine lv_iload X.1 X.2.1 dX12_areCellsAlike_63 (mz_at hl 5 rfl) ?_
      exact mz_zret Y dX12_areCellsAlike_65 hH hS hc hs hr
    · refine lv_iload X.1 X.2.1 dX12_areCellsAlike_13 (mz_at hl 5 rfl) ?_
      refine mz_aload_n X dX12_areCellsAlike_15 rfl (mz_at hl 0 rfl) ?_
      refine mz_getR X hH fl_RX12_106 dX12_areCellsAlike_16 hr (fun v1 hr => ?_)
      refine lv_sipush (v := 900) X.1 X.2.1 dX12_areCellsAlike_19 (by decide) ?_
      refine lv_iload_n X.1 X.2.1 dX12_areCellsAlike_22 rfl (mz_at hl 1 rfl) ?_
      refine lv_imul X.1 X.2.1 dX12_areCellsAlike_23 ?_
      refine lv_iload_n X.1 X.2.1 dX12_areCellsAlike_24 rfl (mz_at hl 3 rfl) ?_
      refine lv_iadd X.1 X.2.1 dX12_areCellsAlike_25 ?_
      refine lv_iload X.1 X.2.1 dX12_areCellsAlike_26 (mz_at hl 6 rfl) ?_
      refine lv_iadd X.1 X.2.1 dX12_areCellsAlike_28 ?_
      refine mz_lald X hH dX12_areCellsAlike_29 hr (fun v2 hr => ?_)
      refine mz_aload_n X dX12_areCellsAlike_30 rfl (mz_at hl 0 rfl) ?_
      refine mz_getR X hH fl_RX12_106 dX12_areCellsAlike_31 hr (fun v3 hr => ?_)
      refine lv_sipush (v := 900) X.1 X.2.1 dX12_areCellsAlike_34 (by decide) ?_
      refine lv_iload_n X.1 X.2.1 dX12_areCellsAlike_37 rfl (mz_at hl 2 rfl) ?_
      refine lv_imul X.1 X.2.1 dX12_areCellsAlike_38 ?_
      refine lv_iload_n X.1 X.2.1 dX12_areCellsAlike_39 rfl (mz_at hl 3 rfl) ?_
      refine lv_iadd X.1 X.2.1 dX12_areCellsAlike_40 ?_
      refine lv_iload X.1 X.2.1 dX12_areCellsAlike_41 (mz_at hl 6 rfl) ?_
      refine lv_iadd X.1 X.2.1 dX12_areCellsAlike_43 ?_
      refine mz_lald X hH dX12_areCellsAlike_44 hr (fun v4 hr => ?_)
      refine W.lcmp X.1 X.2.1 dX12_areCellsAlike_45 ?_
      refine mz_if_ne X 53 dX12_areCellsAlike_46 (by decide) hr (fun hr => ?_) (fun hr => ?_)
      · refine lv_iconst (v := 0) X.1 X.2.1 dX12_areCellsAlike_53 (by decide) ?_
        exact pf_X12_areCellsAlike_b54 r Y ih h a0 x1 x2 x3 x4 x6 x5 0 _ _ hr H locs cells slots ls hH hS (mz_sub hl [0, 1, 2, 3, 4, 6] rfl) hc hs
      · refine lv_iconst (v := 1) X.1 X.2.1 dX12_areCellsAlike_49 (by decide) ?_
        refine lv_goto (tgt := 54) X.1 X.2.1 dX12_areCellsAlike_50 (by decide) ?_
        exact pf_X12_areCellsAlike_b54 r Y ih h a0 x1 x2 x3 x4 x6 x5 1 _ _ hr H locs cells slots ls hH hS (mz_sub hl [0, 1, 2, 3, 4, 6] rfl) hc hs
def fn_X12_areCellsAlike (h : mz_H) (a0 : (Option Nat)) (x1 : Int32) (x2 : Int32) (x3 : Int32) (x4 : Int32) : mz_Res Int32 :=
  fn_X12_areCellsAlike_b6 1001 h a0 x1 x2 x3 x4 1 0
set_option maxHeartbeats 4000000 in
set_option maxRecDepth 100000 in
theorem pf_X12_areCellsAlike_b0 (r : Int32) (Y : mz_Y p g RX12 cX12_areCellsAlike 7 (some .boolean) "areCellsAlike" (mz_AF h0) s m args meth c) (h : mz_H) (a0 : (Option Nat)) (x1 : Int32) (x2 : Int32) (x3 : Int32) (x4 : Int32) (dc ds : Nat) (hr : fn_X12_areCellsAlike h a0 x1 x2 x3 x4 = some (r, hf, dc, ds)) : mz_Go l g p e s m args below meth c 0 0 DC DS h0 (some (Value.int r)) hf 7 0 [(0, false, va_rf a0), (1, false, .int x1), (2, false, .int x2), (3, false, .int x3), (4, false, .int x4)] [] h dc ds := by
  unfold fn_X12_areCellsAlike at hr
  intro H locs cells slots ls hH hS hl hc hs
  have X := Y.1
  refine lv_iconst (v := 1) X.1 X.2.1 dX12_areCellsAlike_0 (by decide) ?_
  refine mz_istore X [(5, false, .int 1), (0, false, va_rf a0), (1, false, .int x1), (2, false, .int x2), (3, false, .int x3), (4, false, .int x4)] dX12_areCellsAlike_1 hl (by decide) rfl (fun ls hl => ?_)
  refine lv_iconst (v := 0) X.1 X.2.1 dX12_areCellsAlike_3 (by decide) ?_
  refine mz_istore X [(6, false, .int 0), (5, false, .int 1), (0, false, va_rf a0), (1, false, .int x1), (2, false, .int x2), (3, false, .int x3), (4, false, .int x4)] dX12_areCellsAlike_4 hl (by decide) rfl (fun ls hl => ?_)
  exact pf_X12_areCellsAlike_b6 r Y 1001 h a0 x1 x2 x3 x4 1 0 _ _ hr H locs cells slots ls hH hS (mz_sub hl [2, 3, 4, 5, 6, 1, 0] rfl) hc hs
set_option maxRecDepth 100000 in
theorem ct_X12_areCellsAlike (l : Launch) (g : mz_G) (h : mz_H) (a0 : (Option Nat)) (x1 : Int32) (x2 : Int32) (x3 : Int32) (x4 : Int32) (r : Int32) (hf : mz_H) (k n : Nat) (hr : fn_X12_areCellsAlike h a0 x1 x2 x3 x4 = some (r, hf, k, n)) : mz_C l g yX12_areCellsAlike cX12_areCellsAlike 7 (some .boolean) 0 0 [va_rf a0, .int x1, .int x2, .int x3, .int x4] h (some (Value.int r)) hf k n := by
  refine mz_met (as := [(false, va_rf a0), (false, .int x1), (false, .int x2), (false, .int x3), (false, .int x4)]) (plainFor_of_name (by decide)) (mz_c1 (mz_cat_rf _) (mz_c1 rfl (mz_c1 rfl (mz_c1 rfl (mz_c1 rfl mz_c0))))) (Nat.le_of_ble_eq_true rfl) ?_
  intro p e s m args below meth c Y
  exact pf_X12_areCellsAlike_b0 r Y h a0 x1 x2 x3 x4 _ _ hr
theorem dX12_areSlotsAlike_0 : decode cX12_areSlotsAlike 0 = .ok (.aload_n 0, 1) := by decide +kernel
theorem dX12_areSlotsAlike_1 : decode cX12_areSlotsAlike 1 = .ok (.getfield 81, 3) := by decide +kernel
theorem dX12_areSlotsAlike_4 : decode cX12_areSlotsAlike 4 = .ok (.iload_n 1, 1) := by decide +kernel
theorem dX12_areSlotsAlike_5 : decode cX12_areSlotsAlike 5 = .ok (.iaload, 1) := by decide +kernel
theorem dX12_areSlotsAlike_6 : decode cX12_areSlotsAlike 6 = .ok (.aload_n 0, 1) := by decide +kernel
theorem dX12_areSlotsAlike_7 : decode cX12_areSlotsAlike 7 = .ok (.getfield 81, 3) := by decide +kernel
theorem dX12_areSlotsAlike_10 : decode cX12_areSlotsAlike 10 = .ok (.iload_n 2, 1) := by decide +kernel
theorem dX12_areSlotsAlike_11 : decode cX12_areSlotsAlike 11 = .ok (.iaload, 1) := by decide +kernel
theorem dX12_areSlotsAlike_12 : decode cX12_areSlotsAlike 12 = .ok (.if_icmp .ne 48, 3) := by decide +kernel
theorem dX12_areSlotsAlike_15 : decode cX12_areSlotsAlike 15 = .ok (.aload_n 0, 1) := by decide +kernel
theorem dX12_areSlotsAlike_16 : decode cX12_areSlotsAlike 16 = .ok (.getfield 84, 3) := by decide +kernel
theorem dX12_areSlotsAlike_19 : decode cX12_areSlotsAlike 19 = .ok (.iload_n 1, 1) := by decide +kernel
theorem dX12_areSlotsAlike_20 : decode cX12_areSlotsAlike 20 = .ok (.iaload, 1) := by decide +kernel
theorem dX12_areSlotsAlike_21 : decode cX12_areSlotsAlike 21 = .ok (.aload_n 0, 1) := by decide +kernel
theorem dX12_areSlotsAlike_22 : decode cX12_areSlotsAlike 22 = .ok (.getfield 84, 3) := by decide +kernel
theorem dX12_areSlotsAlike_25 : decode cX12_areSlotsAlike 25 = .ok (.iload_n 2, 1) := by decide +kernel
theorem dX12_areSlotsAlike_26 : decode cX12_areSlotsAlike 26 = .ok (.iaload, 1) := by decide +kernel
theorem dX12_areSlotsAlike_27 : decode cX12_areSlotsAlike 27 = .ok (.if_icmp .ne 33, 3) := by decide +kernel
theorem dX12_areSlotsAlike_30 : decode cX12_areSlotsAlike 30 = .ok (.aload_n 0, 1) := by decide +kernel
theorem dX12_areSlotsAlike_31 : decode cX12_areSlotsAlike 31 = .ok (.getfield 87, 3) := by decide +kernel
theorem dX12_areSlotsAlike_34 : decode cX12_areSlotsAlike 34 = .ok (.iload_n 1, 1) := by decide +kernel
theorem dX12_areSlotsAlike_35 : decode cX12_areSlotsAlike 35 = .ok (.iaload, 1) := by decide +kernel
theorem dX12_areSlotsAlike_36 : decode cX12_areSlotsAlike 36 = .ok (.aload_n 0, 1) := by decide +kernel
theorem dX12_areSlotsAlike_37 : decode cX12_areSlotsAlike 37 = .ok (.getfield 87, 3) := by decide +kernel
theorem dX12_areSlotsAlike_40 : decode cX12_areSlotsAlike 40 = .ok (.iload_n 2, 1) := by decide +kernel
theorem dX12_areSlotsAlike_41 : decode cX12_areSlotsAlike 41 = .ok (.iaload, 1) := by decide +kernel
theorem dX12_areSlotsAlike_42 : decode cX12_areSlotsAlike 42 = .ok (.if_icmp .ne 18, 3) := by decide +kernel
theorem dX12_areSlotsAlike_45 : decode cX12_areSlotsAlike 45 = .ok (.aload_n 0, 1) := by decide +kernel
theorem dX12_areSlotsAlike_46 : decode cX12_areSlotsAlike 46 = .ok (.getfield 93, 3) := by decide +kernel
theorem dX12_areSlotsAlike_49 : decode cX12_areSlotsAlike 49 = .ok (.iload_n 1, 1) := by decide +kernel
theorem dX12_areSlotsAlike_50 : decode cX12_areSlotsAlike 50 = .ok (.baload, 1) := by decide +kernel
theorem dX12_areSlotsAlike_51 : decode cX12_areSlotsAlike 51 = .ok (.aload_n 0, 1) := by decide +kernel
theorem dX12_areSlotsAlike_52 : decode cX12_areSlotsAlike 52 = .ok (.getfield 93, 3) := by decide +kernel
theorem dX12_areSlotsAlike_55 : decode cX12_areSlotsAlike 55 = .ok (.iload_n 2, 1) := by decide +kernel
theorem dX12_areSlotsAlike_56 : decode cX12_areSlotsAlike 56 = .ok (.baload, 1) := by decide +kernel
theorem dX12_areSlotsAlike_57 : decode cX12_areSlotsAlike 57 = .ok (.if_icmp .eq 5, 3) := by decide +kernel
theorem dX12_areSlotsAlike_60 : decode cX12_areSlotsAlike 60 = .ok (.iconst 0, 1) := by decide +kernel
theorem dX12_areSlotsAlike_61 : decode cX12_areSlotsAlike 61 = .ok (.ireturn, 1) := by decide +kernel
theorem dX12_areSlotsAlike_62 : decode cX12_areSlotsAlike 62 = .ok (.aload_n 0, 1) := by decide +kernel
theorem dX12_areSlotsAlike_63 : decode cX12_areSlotsAlike 63 = .ok (.getfield 93, 3) := by decide +kernel
theorem dX12_areSlotsAlike_66 : decode cX12_areSlotsAlike 66 = .ok (.iload_n 1, 1) := by decide +kernel
theorem dX12_areSlotsAlike_67 : decode cX12_areSlotsAlike 67 = .ok (.baload, 1) := by decide +kernel
theorem dX12_areSlotsAlike_68 : decode cX12_areSlotsAlike 68 = .ok (.ifCond .ne 5, 3) := by decide +kernel
theorem dX12_areSlotsAlike_71 : decode cX12_areSlotsAlike 71 = .ok (.iconst 1, 1) := by decide +kernel
theorem dX12_areSlotsAlike_72 : decode cX12_areSlotsAlike 72 = .ok (.ireturn, 1) := by decide +kernel
theorem dX12_areSlotsAlike_73 : decode cX12_areSlotsAlike 73 = .ok (.aload_n 0, 1) := by decide +kernel
theorem dX12_areSlotsAlike_74 : decode cX12_areSlotsAlike 74 = .ok (.getfield 96, 3) := by decide +kernel
theorem dX12_areSlotsAlike_77 : decode cX12_areSlotsAlike 77 = .ok (.iload_n 1, 1) := by decide +kernel
theorem dX12_areSlotsAlike_78 : decode cX12_areSlotsAlike 78 = .ok (.iaload, 1) := by decide +kernel
theorem dX12_areSlotsAlike_79 : decode cX12_areSlotsAlike 79 = .ok (.aload_n 0, 1) := by decide +kernel
theorem dX12_areSlotsAlike_80 : decode cX12_areSlotsAlike 80 = .ok (.getfield 96, 3) := by decide +kernel
theorem dX12_areSlotsAlike_83 : decode cX12_areSlotsAlike 83 = .ok (.iload_n 2, 1) := by decide +kernel
theorem dX12_areSlotsAlike_84 : decode cX12_areSlotsAlike 84 = .ok (.iaload, 1) := by decide +kernel
theorem dX12_areSlotsAlike_85 : decode cX12_areSlotsAlike 85 = .ok (.if_icmp .eq 5, 3) := by decide +kernel
theorem dX12_areSlotsAlike_88 : decode cX12_areSlotsAlike 88 = .ok (.iconst 0, 1) := by decide +kernel
theorem dX12_areSlotsAlike_89 : decode cX12_areSlotsAlike 89 = .ok (.ireturn, 1) := by decide +kernel
theorem dX12_areSlotsAlike_90 : decode cX12_areSlotsAlike 90 = .ok (.aload_n 0, 1) := by decide +kernel
theorem dX12_areSlotsAlike_91 : decode cX12_areSlotsAlike 91 = .ok (.getfield 87, 3) := by decide +kernel
theorem dX12_areSlotsAlike_94 : decode cX12_areSlotsAlike 94 = .ok (.iload_n 1, 1) := by decide +kernel
theorem dX12_areSlotsAlike_95 : decode cX12_areSlotsAlike 95 = .ok (.iaload, 1) := by decide +kernel
theorem dX12_areSlotsAlike_96 : decode cX12_areSlotsAlike 96 = .ok (.iconst 2, 1) := by decide +kernel
theorem dX12_areSlotsAlike_97 : decode cX12_areSlotsAlike 97 = .ok (.if_icmp .ge 17, 3) := by decide +kernel
theorem dX12_areSlotsAlike_100 : decode cX12_areSlotsAlike 100 = .ok (.aload_n 0, 1) := by decide +kernel
theorem dX12_areSlotsAlike_101 : decode cX12_areSlotsAlike 101 = .ok (.iload_n 1, 1) := by decide +kernel
theorem dX12_areSlotsAlike_102 : decode cX12_areSlotsAlike 102 = .ok (.iload_n 2, 1) := by decide +kernel
theorem dX12_areSlotsAlike_103 : decode cX12_areSlotsAlike 103 = .ok (.iconst 0, 1) := by decide +kernel
theorem dX12_areSlotsAlike_104 : decode cX12_areSlotsAlike 104 = .ok (.aload_n 0, 1) := by decide +kernel
theorem dX12_areSlotsAlike_105 : decode cX12_areSlotsAlike 105 = .ok (.getfield 96, 3) := by decide +kernel
theorem dX12_areSlotsAlike_108 : decode cX12_areSlotsAlike 108 = .ok (.iload_n 1, 1) := by decide +kernel
theorem dX12_areSlotsAlike_109 : decode cX12_areSlotsAlike 109 = .ok (.iaload, 1) := by decide +kernel
theorem dX12_areSlotsAlike_110 : decode cX12_areSlotsAlike 110 = .ok (.invokevirtual 272, 3) := by decide +kernel
theorem dX12_areSlotsAlike_113 : decode cX12_areSlotsAlike 113 = .ok (.ireturn, 1) := by decide +kernel
theorem dX12_areSlotsAlike_114 : decode cX12_areSlotsAlike 114 = .ok (.iconst 1, 1) := by decide +kernel
theorem dX12_areSlotsAlike_115 : decode cX12_areSlotsAlike 115 = .ok (.istore_n 3, 1) := by decide +kernel
theorem dX12_areSlotsAlike_116 : decode cX12_areSlotsAlike 116 = .ok (.iconst 0, 1) := by decide +kernel
theorem dX12_areSlotsAlike_117 : decode cX12_areSlotsAlike 117 = .ok (.istore 4, 2) := by decide +kernel
theorem dX12_areSlotsAlike_119 : decode cX12_areSlotsAlike 119 = .ok (.iload 4, 2) := by decide +kernel
theorem dX12_areSlotsAlike_121 : decode cX12_areSlotsAlike 121 = .ok (.aload_n 0, 1) := by decide +kernel
theorem dX12_areSlotsAlike_122 : decode cX12_areSlotsAlike 122 = .ok (.getfield 96, 3) := by decide +kernel
theorem dX12_areSlotsAlike_125 : decode cX12_areSlotsAlike 125 = .ok (.iload_n 1, 1) := by decide +kernel
theorem dX12_areSlotsAlike_126 : decode cX12_areSlotsAlike 126 = .ok (.iaload, 1) := by decide +kernel
theorem dX12_areSlotsAlike_127 : decode cX12_areSlotsAlike 127 = .ok (.if_icmp .ge 102, 3) := by decide +kernel
theorem dX12_areSlotsAlike_130 : decode cX12_areSlotsAlike 130 = .ok (.iload_n 3, 1) := by decide +kernel
theorem dX12_areSlotsAlike_131 : decode cX12_areSlotsAlike 131 = .ok (.ifCond .eq 98, 3) := by decide +kernel
theorem dX12_areSlotsAlike_134 : decode cX12_areSlotsAlike 134 = .ok (.bipush 30, 2) := by decide +kernel
theorem dX12_areSlotsAlike_136 : decode cX12_areSlotsAlike 136 = .ok (.iload_n 1, 1) := by decide +kernel
theorem dX12_areSlotsAlike_137 : decode cX12_areSlotsAlike 137 = .ok (.imul, 1) := by decide +kernel
theorem dX12_areSlotsAlike_138 : decode cX12_areSlotsAlike 138 = .ok (.iload 4, 2) := by decide +kernel
theorem dX12_areSlotsAlike_140 : decode cX12_areSlotsAlike 140 = .ok (.iadd, 1) := by decide +kernel
theorem dX12_areSlotsAlike_141 : decode cX12_areSlotsAlike 141 = .ok (.istore 5, 2) := by decide +kernel
theorem dX12_areSlotsAlike_143 : decode cX12_areSlotsAlike 143 = .ok (.bipush 30, 2) := by decide +kernel
theorem dX12_areSlotsAlike_145 : decode cX12_areSlotsAlike 145 = .ok (.iload_n 2, 1) := by decide +kernel
theorem dX12_areSlotsAlike_146 : decode cX12_areSlotsAlike 146 = .ok (.imul, 1) := by decide +kernel
theorem dX12_areSlotsAlike_147 : decode cX12_areSlotsAlike 147 = .ok (.iload 4, 2) := by decide +kernel
theorem dX12_areSlotsAlike_149 : decode cX12_areSlotsAlike 149 = .ok (.iadd, 1) := by decide +kernel
theorem dX12_areSlotsAlike_150 : decode cX12_areSlotsAlike 150 = .ok (.istore 6, 2) := by decide +kernel
theorem dX12_areSlotsAlike_152 : decode cX12_areSlotsAlike 152 = .ok (.aload_n 0, 1) := by decide +kernel
theorem dX12_areSlotsAlike_153 : decode cX12_areSlotsAlike 153 = .ok (.getfield 99, 3) := by decide +kernel
theorem dX12_areSlotsAlike_156 : decode cX12_areSlotsAlike 156 = .ok (.iload 5, 2) := by decide +kernel
theorem dX12_areSlotsAlike_158 : decode cX12_areSlotsAlike 158 = .ok (.baload, 1) := by decide +kernel
theorem dX12_areSlotsAlike_159 : decode cX12_areSlotsAlike 159 = .ok (.aload_n 0, 1) := by decide +kernel
theorem dX12_areSlotsAlike_160 : decode cX12_areSlotsAlike 160 = .ok (.getfield 99, 3) := by decide +kernel
theorem dX12_areSlotsAlike_163 : decode cX12_areSlotsAlike 163 = .ok (.iload 6, 2) := by decide +kernel
theorem dX12_areSlotsAlike_165 : decode cX12_areSlotsAlike 165 = .ok (.baload, 1) := by decide +kernel
theorem dX12_areSlotsAlike_166 : decode cX12_areSlotsAlike 166 = .ok (.if_icmp .ne 55, 3) := by decide +kernel
theorem dX12_areSlotsAlike_169 : decode cX12_areSlotsAlike 169 = .ok (.aload_n 0, 1) := by decide +kernel
theorem dX12_areSlotsAlike_170 : decode cX12_areSlotsAlike 170 = .ok (.getfield 99, 3) := by decide +kernel
theorem dX12_areSlotsAlike_173 : decode cX12_areSlotsAlike 173 = .ok (.iload 5, 2) := by decide +kernel
theorem dX12_areSlotsAlike_175 : decode cX12_areSlotsAlike 175 = .ok (.baload, 1) := by decide +kernel
theorem dX12_areSlotsAlike_176 : decode cX12_areSlotsAlike 176 = .ok (.ifCond .eq 41, 3) := by decide +kernel
theorem dX12_areSlotsAlike_179 : decode cX12_areSlotsAlike 179 = .ok (.aload_n 0, 1) := by decide +kernel
theorem dX12_areSlotsAlike_180 : decode cX12_areSlotsAlike 180 = .ok (.getfield 102, 3) := by decide +kernel
theorem dX12_areSlotsAlike_183 : decode cX12_areSlotsAlike 183 = .ok (.iload 5, 2) := by decide +kernel
theorem dX12_areSlotsAlike_185 : decode cX12_areSlotsAlike 185 = .ok (.iaload, 1) := by decide +kernel
theorem dX12_areSlotsAlike_186 : decode cX12_areSlotsAlike 186 = .ok (.aload_n 0, 1) := by decide +kernel
theorem dX12_areSlotsAlike_187 : decode cX12_areSlotsAlike 187 = .ok (.getfield 102, 3) := by decide +kernel
theorem dX12_areSlotsAlike_190 : decode cX12_areSlotsAlike 190 = .ok (.iload 6, 2) := by decide +kernel
theorem dX12_areSlotsAlike_192 : decode cX12_areSlotsAlike 192 = .ok (.iaload, 1) := by decide +kernel
theorem dX12_areSlotsAlike_193 : decode cX12_areSlotsAlike 193 = .ok (.if_icmp .ne 28, 3) := by decide +kernel
theorem dX12_areSlotsAlike_196 : decode cX12_areSlotsAlike 196 = .ok (.aload_n 0, 1) := by decide +kernel
theorem dX12_areSlotsAlike_197 : decode cX12_areSlotsAlike 197 = .ok (.iload_n 1, 1) := by decide +kernel
theorem dX12_areSlotsAlike_198 : decode cX12_areSlotsAlike 198 = .ok (.iload_n 2, 1) := by decide +kernel
theorem dX12_areSlotsAlike_199 : decode cX12_areSlotsAlike 199 = .ok (.bipush 30, 2) := by decide +kernel
theorem dX12_areSlotsAlike_201 : decode cX12_areSlotsAlike 201 = .ok (.iload 4, 2) := by decide +kernel
theorem dX12_areSlotsAlike_203 : decode cX12_areSlotsAlike 203 = .ok (.imul, 1) := by decide +kernel
theorem dX12_areSlotsAlike_204 : decode cX12_areSlotsAlike 204 = .ok (.aload_n 0, 1) := by decide +kernel
theorem dX12_areSlotsAlike_205 : decode cX12_areSlotsAlike 205 = .ok (.getfield 102, 3) := by decide +kernel
theorem dX12_areSlotsAlike_208 : decode cX12_areSlotsAlike 208 = .ok (.iload 5, 2) := by decide +kernel
theorem dX12_areSlotsAlike_210 : decode cX12_areSlotsAlike 210 = .ok (.iaload, 1) := by decide +kernel
theorem dX12_areSlotsAlike_211 : decode cX12_areSlotsAlike 211 = .ok (.invokevirtual 272, 3) := by decide +kernel
theorem dX12_areSlotsAlike_214 : decode cX12_areSlotsAlike 214 = .ok (.ifCond .eq 7, 3) := by decide +kernel
theorem dX12_areSlotsAlike_217 : decode cX12_areSlotsAlike 217 = .ok (.iconst 1, 1) := by decide +kernel
theorem dX12_areSlotsAlike_218 : decode cX12_areSlotsAlike 218 = .ok (.goto 4, 3) := by decide +kernel
theorem dX12_areSlotsAlike_221 : decode cX12_areSlotsAlike 221 = .ok (.iconst 0, 1) := by decide +kernel
theorem dX12_areSlotsAlike_222 : decode cX12_areSlotsAlike 222 = .ok (.istore_n 3, 1) := by decide +kernel
theorem dX12_areSlotsAlike_223 : decode cX12_areSlotsAlike 223 = .ok (.iinc 4 1, 3) := by decide +kernel
theorem dX12_areSlotsAlike_226 : decode cX12_areSlotsAlike 226 = .ok (.goto (-107), 3) := by decide +kernel
theorem dX12_areSlotsAlike_229 : decode cX12_areSlotsAlike 229 = .ok (.iload_n 3, 1) := by decide +kernel
theorem dX12_areSlotsAlike_230 : decode cX12_areSlotsAlike 230 = .ok (.ireturn, 1) := by decide +kernel
def fn_X12_areSlotsAlike_b222 (rc119 : mz_H → (Option Nat) → Int32 → Int32 → Int32 → Int32 → mz_Res Int32) (h : mz_H) (a0 : (Option Nat)) (x1 : Int32) (x2 : Int32) (x4 : Int32) (s0 : Int32) : mz_Res Int32 :=
  mz_op (some (x4 + 1)) fun v1 =>
  rc119 h a0 x1 x2 s0 v1
set_option maxHeartbeats 4000000 in
set_option maxRecDepth 100000 in
theorem pf_X12_areSlotsAlike_b222 (r : Int32) (Y : mz_Y p g RX12 cX12_areSlotsAlike 7 (some .boolean) "areSlotsAlike" (mz_AF h0) s m args meth c) {rc119 : mz_H → (Option Nat) → Int32 → Int32 → Int32 → Int32 → mz_Res Int32} (hrc119 : ∀ (h : mz_H) (a0 : (Option Nat)) (x1 : Int32) (x2 : Int32) (x3 : Int32) (x4 : Int32) (dc ds : Nat), rc119 h a0 x1 x2 x3 x4 = some (r, hf, dc, ds) → mz_Go l g p e s m args below meth c 1 26 DC DS h0 (some (Value.int r)) hf 7 119 [(0, false, va_rf a0), (1, false, .int x1), (2, false, .int x2), (3, false, .int x3), (4, false, .int x4)] [] h dc ds) (h : mz_H) (a0 : (Option Nat)) (x1 : Int32) (x2 : Int32) (x4 : Int32) (s0 : Int32) (dc ds : Nat) (hr : fn_X12_areSlotsAlike_b222 rc119 h a0 x1 x2 x4 s0 = some (r, hf, dc, ds)) : mz_Go l g p e s m args below meth c 1 26 DC DS h0 (some (Value.int r)) hf 7 222 [(0, false, va_rf a0), (1, false, .int x1), (2, false, .int x2), (4, false, .int x4)] [.int s0] h dc ds := by
  unfold fn_X12_areSlotsAlike_b222 at hr
  intro H locs cells slots ls hH hS hl hc hs
  have X := Y.1
  refine mz_istore_n X [(3, false, .int s0), (0, false, va_rf a0), (1, false, .int x1), (2, false, .int x2), (4, false, .int x4)] dX12_areSlotsAlike_222 rfl hl (by decide) rfl (fun ls hl => ?_)
  obtain ⟨v1, hv1, hr⟩ := mz_op_some hr
  have hv1 := Option.some.inj hv1
  refine mz_iinc (k := 4) X [(4, false, .int v1), (3, false, .int s0), (0, false, va_rf a0), (1, false, .int x1), (2, false, .int x2)] v1 dX12_areSlotsAlike_223 hl rfl hv1 (by decide) rfl (fun ls hl => ?_)
  refine lv_goto (tgt := 119) X.1 X.2.1 dX12_areSlotsAlike_226 (by decide) ?_
  exact hrc119 h a0 x1 x2 s0 v1 _ _ hr H locs cells slots ls hH hS (mz_sub hl [2, 3, 4, 1, 0] rfl) hc hs
def fn_X12_areSlotsAlike_b221 (rc119 : mz_H → (Option Nat) → Int32 → Int32 → Int32 → Int32 → mz_Res Int32) (h : mz_H) (a0 : (Option Nat)) (x1 : Int32) (x2 : Int32) (x4 : Int32) : mz_Res Int32 :=
  fn_X12_areSlotsAlike_b222 rc119 h a0 x1 x2 x4 0
set_option maxHeartbeats 4000000 in
set_option maxRecDepth 100000 in
theorem pf_X12_areSlotsAlike_b221 (r : Int32) (Y : mz_Y p g RX12 cX12_areSlotsAlike 7 (some .boolean) "areSlotsAlike" (mz_AF h0) s m args meth c) {rc119 : mz_H → (Option Nat) → Int32 → Int32 → Int32 → Int32 → mz_Res Int32} (hrc119 : ∀ (h : mz_H) (a0 : (Option Nat)) (x1 : Int32) (x2 : Int32) (x3 : Int32) (x4 : Int32) (dc ds : Nat), rc119 h a0 x1 x2 x3 x4 = some (r, hf, dc, ds) → mz_Go l g p e s m args below meth c 1 26 DC DS h0 (some (Value.int r)) hf 7 119 [(0, false, va_rf a0), (1, false, .int x1), (2, false, .int x2), (3, false, .int x3), (4, false, .int x4)] [] h dc ds) (h : mz_H) (a0 : (Option Nat)) (x1 : Int32) (x2 : Int32) (x4 : Int32) (dc ds : Nat) (hr : fn_X12_areSlotsAlike_b221 rc119 h a0 x1 x2 x4 = some (r, hf, dc, ds)) : mz_Go l g p e s m args below meth c 1 26 DC DS h0 (some (Value.int r)) hf 7 221 [(0, false, va_rf a0), (1, false, .int x1), (2, false, .int x2), (4, false, .int x4)] [] h dc ds := by
  unfold fn_X12_areSlotsAlike_b221 at hr
  intro H locs cells slots ls hH hS hl hc hs
  have X := Y.1
  refine lv_iconst (v := 0) X.1 X.2.1 dX12_areSlotsAlike_221 (by decide) ?_
  exact pf_X12_areSlotsAlike_b222 r Y hrc119 h a0 x1 x2 x4 0 _ _ hr H locs cells slots ls hH hS (mz_sub hl [0, 1, 2, 3] rfl) hc hs
def fn_X12_areSlotsAlike_b217 (rc119 : mz_H → (Option Nat) → Int32 → Int32 → Int32 → Int32 → mz_Res Int32) (h : mz_H) (a0 : (Option Nat)) (x1 : Int32) (x2 : Int32) (x4 : Int32) : mz_Res Int32 :=
  fn_X12_areSlotsAlike_b222 rc119 h a0 x1 x2 x4 1
set_option maxHeartbeats 4000000 in
set_option maxRecDepth 100000 in
theorem pf_X12_areSlotsAlike_b217 (r : Int32) (Y : mz_Y p g RX12 cX12_areSlotsAlike 7 (some .boolean) "areSlotsAlike" (mz_AF h0) s m args meth c) {rc119 : mz_H → (Option Nat) → Int32 → Int32 → Int32 → Int32 → mz_Res Int32} (hrc119 : ∀ (h : mz_H) (a0 : (Option Nat)) (x1 : Int32) (x2 : Int32) (x3 : Int32) (x4 : Int32) (dc ds : Nat), rc119 h a0 x1 x2 x3 x4 = some (r, hf, dc, ds) → mz_Go l g p e s m args below meth c 1 26 DC DS h0 (some (Value.int r)) hf 7 119 [(0, false, va_rf a0), (1, false, .int x1), (2, false, .int x2), (3, false, .int x3), (4, false, .int x4)] [] h dc ds) (h : mz_H) (a0 : (Option Nat)) (x1 : Int32) (x2 : Int32) (x4 : Int32) (dc ds : Nat) (hr : fn_X12_areSlotsAlike_b217 rc119 h a0 x1 x2 x4 = some (r, hf, dc, ds)) : mz_Go l g p e s m args below meth c 1 26 DC DS h0 (some (Value.int r)) hf 7 217 [(0, false, va_rf a0), (1, false, .int x1), (2, false, .int x2), (4, false, .int x4)] [] h dc ds := by
  unfold fn_X12_areSlotsAlike_b217 at hr
  intro H locs cells slots ls hH hS hl hc hs
  have X := Y.1
  refine lv_iconst (v := 1) X.1 X.2.1 dX12_areSlotsAlike_217 (by decide) ?_
  refine lv_goto (tgt := 222) X.1 X.2.1 dX12_areSlotsAlike_218 (by decide) ?_
  exact pf_X12_areSlotsAlike_b222 r Y hrc119 h a0 x1 x2 x4 1 _ _ hr H locs cells slots ls hH hS (mz_sub hl [0, 1, 2, 3] rfl) hc hs
def fn_X12_areSlotsAlike_b119 : Nat → mz_H → (Option Nat) → Int32 → Int32 → Int32 → Int32 → mz_Res Int32
  | 0, _, _, _, _, _, _ => none
  | n + 1, h, a0, x1, x2, x3, x4 =>
    mz_op (mz_fR h a0 11 40) fun v1 =>
    mz_op (mz_aI h v1 0 x1) fun v2 =>
    if v2 ≤ x4 then
      mz_chk (x3 &&& 1 == x3) (mz_ret x3 h)
    else
      if x3 = 0 then
        mz_chk (x3 &&& 1 == x3) (mz_ret x3 h)
      else
        mz_op (some ((30 * x1) + x4)) fun v3 =>
        mz_op (some ((30 * x2) + x4)) fun v4 =>
        mz_op (mz_fR h a0 11 41) fun v5 =>
        mz_op (mz_aI h v5 2 v3) fun v6 =>
        mz_op (mz_fR h a0 11 41) fun v7 =>
        mz_op (mz_aI h v7 2 v4) fun v8 =>
        if v6 = v8 then
          mz_op (mz_fR h a0 11 41) fun v9 =>
          mz_op (mz_aI h v9 2 v3) fun v10 =>
          if v10 = 0 then
            fn_X12_areSlotsAlike_b217 (fn_X12_areSlotsAlike_b119 n) h a0 x1 x2 x4
          else
            mz_op (mz_fR h a0 11 42) fun v11 =>
            mz_op (mz_aI h v11 0 v3) fun v12 =>
            mz_op (mz_fR h a0 11 42) fun v13 =>
            mz_op (mz_aI h v13 0 v4) fun v14 =>
            if v12 = v14 then
              mz_op (mz_fR h a0 11 42) fun v15 =>
              mz_op (mz_aI h v15 0 v3) fun v16 =>
              mz_chk (mz_is h a0 11) <| mz_call (fn_X12_areCellsAlike h a0 x1 x2 (30 * x4) v16) fun v17 h =>
              if v17 = 0 then
                fn_X12_areSlotsAlike_b221 (fn_X12_areSlotsAlike_b119 n) h a0 x1 x2 x4
              else
                fn_X12_areSlotsAlike_b217 (fn_X12_areSlotsAlike_b119 n) h a0 x1 x2 x4
            else
              fn_X12_areSlotsAlike_b221 (fn_X12_areSlotsAlike_b119 n) h a0 x1 x2 x4
        else
          fn_X12_areSlotsAlike_b221 (fn_X12_areSlotsAlike_b119 n) h a0 x1 x2 x4
set_option maxHeartbeats 4000000 in
set_option maxRecDepth 100000 in
theorem pf_X12_areSlotsAlike_b119 (r : Int32) (Y : mz_Y p g RX12 cX12_areSlotsAlike 7 (some .boolean) "areSlotsAlike" (mz_AF h0) s m args meth c) : ∀ (n : Nat) (h : mz_H) (a0 : (Option Nat)) (x1 : Int32) (x2 : Int32) (x3 : Int32) (x4 : Int32) (dc ds : Nat), fn_X12_areSlotsAlike_b119 n h a0 x1 x2 x3 x4 = some (r, hf, dc, ds) → mz_Go l g p e s m args below meth c 1 26 DC DS h0 (some (Value.int r)) hf 7 119 [(0, false, va_rf a0), (1, false, .int x1), (2, false, .int x2), (3, false, .int x3), (4, false, .int x4)] [] h dc ds := by
  have X := Y.1
  intro n
  induction n with
  | zero => intro h a0 x1 x2 x3 x4 dc ds hr; simp [fn_X12_areSlotsAlike_b119] at hr
  | succ n ih =>
    intro h a0 x1 x2 x3 x4 dc ds hr
    rw [fn_X12_areSlotsAlike_b119] at hr
    intro H locs cells slots ls hH hS hl hc hs
    refine lv_iload X.1 X.2.1 dX12_areSlotsAlike_119 (mz_at hl 4 rfl) ?_
    refine mz_aload_n X dX12_areSlotsAlike_121 rfl (mz_at hl 0 rfl) ?_
    refine mz_getR X hH fl_RX12_96 dX12_areSlotsAlike_122 hr (fun v1 hr => ?_)
    refine lv_iload_n X.1 X.2.1 dX12_areSlotsAlike_125 rfl (mz_at hl 1 rfl) ?_
    refine mz_iald X hH dX12_areSlotsAlike_126 hr (fun v2 hr => ?_)
    refine mz_icmp_ge X 229 dX12_areSlotsAlike_127 (by decide) hr (fun hr => ?_) (fun hr => ?_)
    · refine lv_iload_n X.1 X.2.1 dX12_areSlotsAlike_229 rfl (mz_at hl 3 rfl) ?_
      exact mz_zret Y dX12_areSlotsAlike_230 hH hS hc hs hr
    · refine lv_iload_n X.1 X.2.1 dX12_areSlotsAlike_130 rfl (mz_at hl 3 rfl) ?_
      refine mz_if_eq X 229 dX12_areSlotsAlike_131 (by decide) hr (fun hr => ?_) (fun hr => ?_)
      · refine lv_iload_n X.1 X.2.1 dX12_areSlotsAlike_229 rfl (mz_at hl 3 rfl) ?_
        exact mz_zret Y dX12_areSlotsAlike_230 hH hS hc hs hr
      · refine lv_bipush (v := 30) X.1 X.2.1 dX12_areSlotsAlike_134 (by decide) ?_
        refine lv_iload_n X.1 X.2.1 dX12_areSlotsAlike_136 rfl (mz_at hl 1 rfl) ?_
        refine lv_imul X.1 X.2.1 dX12_areSlotsAlike_137 ?_
        refine lv_iload X.1 X.2.1 dX12_areSlotsAlike_138 (mz_at hl 4 rfl) ?_
        refine lv_iadd X.1 X.2.1 dX12_areSlotsAlike_140 ?_
        refine mz_topi hr (fun v3 hv3 hr => ?_)
        refine mz_istore X [(5, false, .int v3), (0, false, va_rf a0), (1, false, .int x1), (2, false, .int x2), (3, false, .int x3), (4, false, .int x4)] dX12_areSlotsAlike_141 hl (by decide) rfl (fun ls hl => ?_)
        refine lv_bipush (v := 30) X.1 X.2.1 dX12_areSlotsAlike_143 (by decide) ?_
        refine lv_iload_n X.1 X.2.1 dX12_areSlotsAlike_145 rfl (mz_at hl 3 rfl) ?_
        refine lv_imul X.1 X.2.1 dX12_areSlotsAlike_146 ?_
        refine lv_iload X.1 X.2.1 dX12_areSlotsAlike_147 (mz_at hl 5 rfl) ?_
        refine lv_iadd X.1 X.2.1 dX12_areSlotsAlike_149 ?_
        refine mz_topi hr (fun v4 hv4 hr => ?_)
        refine mz_istore X [(6, false, .int v4), (5, false, .int v3), (0, false, va_rf a0), (1, false, .int x1), (2, false, .int x2), (3, false, .int x3), (4, false, .int x4)] dX12_areSlotsAlike_150 hl (by decide) rfl (fun ls hl => ?_)
        refine mz_aload_n X dX12_areSlotsAlike_152 rfl (mz_at hl 2 rfl) ?_
        refine mz_getR X hH fl_RX12_99 dX12_areSlotsAlike_153 hr (fun v5 hr => ?_)
        refine lv_iload X.1 X.2.1 dX12_areSlotsAlike_156 (mz_at hl 1 rfl) ?_
        refine mz_zald X hH dX12_areSlotsAlike_158 hr (fun v6 hr => ?_)
        refine mz_aload_n X dX12_areSlotsAlike_159 rfl (mz_at hl 2 rfl) ?_
        refine mz_getR X hH fl_RX12_99 dX12_areSlotsAlike_160 hr (fun v7 hr => ?_)
        refine lv_iload X.1 X.2.1 dX12_areSlotsAlike_163 (mz_at hl 0 rfl) ?_
        refine mz_zald X hH dX12_areSlotsAlike_165 hr (fun v8 hr => ?_)
        refine mz_icmp_ne X 221 dX12_areSlotsAlike_166 (by decide) hr (fun hr => ?_) (fun hr => ?_)
        · exact pf_X12_areSlotsAlike_b221 r Y ih h a0 x1 x2 x4 _ _ hr H locs cells slots ls hH hS (mz_sub hl [2, 3, 4, 6] rfl) hc hs
        · refine mz_aload_n X dX12_areSlotsAlike_169 rfl (mz_at hl 2 rfl) ?_
          refine mz_getR X hH fl_RX12_99 dX12_areSlotsAlike_170 hr (fun v9 hr => ?_)
          refine lv_iload X.1 X.2.1 dX12_areSlotsAlike_173 (mz_at hl 1 rfl) ?_
          refine mz_zald X hH dX12_areSlotsAlike_175 hr (fun v10 hr => ?_)
          refine mz_if_eq X 217 dX12_areSlotsAlike_176 (by decide) hr (fun hr => ?_) (fun hr => ?_)
          · exact pf_X12_areSlotsAlike_b217 r Y ih h a0 x1 x2 x4 _ _ hr H locs cells slots ls hH hS (mz_sub hl [2, 3, 4, 6] rfl) hc hs
          · refine mz_aload_n X dX12_areSlotsAlike_179 rfl (mz_at hl 2 rfl) ?_
            refine mz_getR X hH fl_RX12_102 dX12_areSlotsAlike_180 hr (fun v11 hr => ?_)
            refine lv_iload X.1 X.2.1 dX12_areSlotsAlike_183 (mz_at hl 1 rfl) ?_
            refine mz_iald X hH dX12_areSlotsAlike_185 hr (fun v12 hr => ?_)
            refine mz_aload_n X dX12_areSlotsAlike_186 rfl (mz_at hl 2 rfl) ?_
            refine mz_getR X hH fl_RX12_102 dX12_areSlotsAlike_187 hr (fun v13 hr => ?_)
            refine lv_iload X.1 X.2.1 dX12_areSlotsAlike_190 (mz_at hl 0 rfl) ?_
            refine mz_iald X hH dX12_areSlotsAlike_192 hr (fun v14 hr => ?_)
            refine mz_icmp_ne X 221 dX12_areSlotsAlike_193 (by decide) hr (fun hr => ?_) (fun hr => ?_)
            · exact pf_X12_areSlotsAlike_b221 r Y ih h a0 x1 x2 x4 _ _ hr H locs cells slots ls hH hS (mz_sub hl [2, 3, 4, 6] rfl) hc hs
            · refine mz_aload_n X dX12_areSlotsAlike_196 rfl (mz_at hl 2 rfl) ?_
              refine lv_iload_n X.1 X.2.1 dX12_areSlotsAlike_197 rfl (mz_at hl 3 rfl) ?_
              refine lv_iload_n X.1 X.2.1 dX12_areSlotsAlike_198 rfl (mz_at hl 4 rfl) ?_
              refine lv_bipush (v := 30) X.1 X.2.1 dX12_areSlotsAlike_199 (by decide) ?_
              refine lv_iload X.1 X.2.1 dX12_areSlotsAlike_201 (mz_at hl 6 rfl) ?_
              refine lv_imul X.1 X.2.1 dX12_areSlotsAlike_203 ?_
              refine mz_aload_n X dX12_areSlotsAlike_204 rfl (mz_at hl 2 rfl) ?_
              refine mz_getR X hH fl_RX12_102 dX12_areSlotsAlike_205 hr (fun v15 hr => ?_)
              refine lv_iload X.1 X.2.1 dX12_areSlotsAlike_208 (mz_at hl 1 rfl) ?_
              refine mz_iald X hH dX12_areSlotsAlike_210 hr (fun v16 hr => ?_)
              refine mz_kV Value.int X hH hS hl.1.1 [.int x1, .int x2, .int (30 * x4), .int v16] [] hr (ct_X12_areCellsAlike l g h a0 x1 x2 (30 * x4) v16) mb_RX12_272 rfl im_X12_areCellsAlike rfl (Nat.le_of_ble_eq_true rfl) ⟨Nat.le_of_ble_eq_true rfl, Nat.le_of_ble_eq_true rfl⟩ hc hs dX12_areSlotsAlike_211 rfl (fun v17 h H locs cells slots dc ds hr hH hS hc hs => ?_)
              refine mz_if_eq X 221 dX12_areSlotsAlike_214 (by decide) hr (fun hr => ?_) (fun hr => ?_)
              · exact pf_X12_areSlotsAlike_b221 r Y ih h a0 x1 x2 x4 _ _ hr H locs cells slots ls hH hS (mz_sub hl [2, 3, 4, 6] rfl) hc hs
              · exact pf_X12_areSlotsAlike_b217 r Y ih h a0 x1 x2 x4 _ _ hr H locs cells slots ls hH hS (mz_sub hl [2, 3, 4, 6] rfl) hc hs
def fn_X12_areSlotsAlike (h : mz_H) (a0 : (Option Nat)) (x1 : Int32) (x2 : Int32) : mz_Res Int32 :=
  mz_op (mz_fR h a0 11 35) fun v1 =>
  mz_op (mz_aI h v1 0 x1) fun v2 =>
  mz_op (mz_fR h a0 11 35) fun v3 =>
  mz_op (mz_aI h v3 0 x2) fun v4 =>
  if v2 = v4 then
    mz_op (mz_fR h a0 11 36) fun v5 =>
    mz_op (mz_aI h v5 0 x1) fun v6 =>
    mz_op (mz_fR h a0 11 36) fun v7 =>
    mz_op (mz_aI h v7 0 x2) fun v8 =>
    if v6 = v8 then
      mz_op (mz_fR h a0 11 37) fun v9 =>
      mz_op (mz_aI h v9 0 x1) fun v10 =>
      mz_op (mz_fR h a0 11 37) fun v11 =>
      mz_op (mz_aI h v11 0 x2) fun v12 =>
      if v10 = v12 then
        mz_op (mz_fR h a0 11 39) fun v13 =>
        mz_op (mz_aI h v13 2 x1) fun v14 =>
        mz_op (mz_fR h a0 11 39) fun v15 =>
        mz_op (mz_aI h v15 2 x2) fun v16 =>
        if v14 = v16 then
          mz_op (mz_fR h a0 11 39) fun v17 =>
          mz_op (mz_aI h v17 2 x1) fun v18 =>
          if v18 = 0 then
            mz_chk ((1 : Int32) &&& 1 == 1) (mz_ret 1 h)
          else
            mz_op (mz_fR h a0 11 40) fun v19 =>
            mz_op (mz_aI h v19 0 x1) fun v20 =>
            mz_op (mz_fR h a0 11 40) fun v21 =>
            mz_op (mz_aI h v21 0 x2) fun v22 =>
            if v20 = v22 then
              mz_op (mz_fR h a0 11 37) fun v23 =>
              mz_op (mz_aI h v23 0 x1) fun v24 =>
              if 2 ≤ v24 then
                fn_X12_areSlotsAlike_b119 1001 h a0 x1 x2 1 0
              else
                mz_op (mz_fR h a0 11 40) fun v25 =>
                mz_op (mz_aI h v25 0 x1) fun v26 =>
                mz_chk (mz_is h a0 11) <| mz_call (fn_X12_areCellsAlike h a0 x1 x2 0 v26) fun v27 h =>
                mz_chk (v27 &&& 1 == v27) (mz_ret v27 h)
            else
              mz_chk ((0 : Int32) &&& 1 == 0) (mz_ret 0 h)
        else
          mz_chk ((0 : Int32) &&& 1 == 0) (mz_ret 0 h)
      else
        mz_chk ((0 : Int32) &&& 1 == 0) (mz_ret 0 h)
    else
      mz_chk ((0 : Int32) &&& 1 == 0) (mz_ret 0 h)
  else
    mz_chk ((0 : Int32) &&& 1 == 0) (mz_ret 0 h)
set_option maxHeartbeats 4000000 in
set_option maxRecDepth 100000 in
theorem pf_X12_areSlotsAlike_b0 (r : Int32) (Y : mz_Y p g RX12 cX12_areSlotsAlike 7 (some .boolean) "areSlotsAlike" (mz_AF h0) s m args meth c) (h : mz_H) (a0 : (Option Nat)) (x1 : Int32) (x2 : Int32) (dc ds : Nat) (hr : fn_X12_areSlotsAlike h a0 x1 x2 = some (r, hf, dc, ds)) : mz_Go l g p e s m args below meth c 1 26 DC DS h0 (some (Value.int r)) hf 7 0 [(0, false, va_rf a0), (1, false, .int x1), (2, false, .int x2)] [] h dc ds := by
  unfold fn_X12_areSlotsAlike at hr
  intro H locs cells slots ls hH hS hl hc hs
  have X := Y.1
  refine mz_aload_n X dX12_areSlotsAlike_0 rfl (mz_at hl 0 rfl) ?_
  refine mz_getR X hH fl_RX12_81 dX12_areSlotsAlike_1 hr (fun v1 hr => ?_)
  refine lv_iload_n X.1 X.2.1 dX12_areSlotsAlike_4 rfl (mz_at hl 1 rfl) ?_
  refine mz_iald X hH dX12_areSlotsAlike_5 hr (fun v2 hr => ?_)
  refine mz_aload_n X dX12_areSlotsAlike_6 rfl (mz_at hl 0 rfl) ?_
  refine mz_getR X hH fl_RX12_81 dX12_areSlotsAlike_7 hr (fun v3 hr => ?_)
  refine lv_iload_n X.1 X.2.1 dX12_areSlotsAlike_10 rfl (mz_at hl 2 rfl) ?_
  refine mz_iald X hH dX12_areSlotsAlike_11 hr (fun v4 hr => ?_)
  refine mz_icmp_ne X 60 dX12_areSlotsAlike_12 (by decide) hr (fun hr => ?_) (fun hr => ?_)
  · refine lv_iconst (v := 0) X.1 X.2.1 dX12_areSlotsAlike_60 (by decide) ?_
    exact mz_zret Y dX12_areSlotsAlike_61 hH hS hc hs hr
  · refine mz_aload_n X dX12_areSlotsAlike_15 rfl (mz_at hl 0 rfl) ?_
    refine mz_getR X hH fl_RX12_84 dX12_areSlotsAlike_16 hr (fun v5 hr => ?_)
    refine lv_iload_n X.1 X.2.1 dX12_areSlotsAlike_19 rfl (mz_at hl 1 rfl) ?_
    refine mz_iald X hH dX12_areSlotsAlike_20 hr (fun v6 hr => ?_)
    refine mz_aload_n X dX12_areSlotsAlike_21 rfl (mz_at hl 0 rfl) ?_
    refine mz_getR X hH fl_RX12_84 dX12_areSlotsAlike_22 hr (fun v7 hr => ?_)
    refine lv_iload_n X.1 X.2.1 dX12_areSlotsAlike_25 rfl (mz_at hl 2 rfl) ?_
    refine mz_iald X hH dX12_areSlotsAlike_26 hr (fun v8 hr => ?_)
    refine mz_icmp_ne X 60 dX12_areSlotsAlike_27 (by decide) hr (fun hr => ?_) (fun hr => ?_)
    · refine lv_iconst (v := 0) X.1 X.2.1 dX12_areSlotsAlike_60 (by decide) ?_
      exact mz_zret Y dX12_areSlotsAlike_61 hH hS hc hs hr
    · refine mz_aload_n X dX12_areSlotsAlike_30 rfl (mz_at hl 0 rfl) ?_
      refine mz_getR X hH fl_RX12_87 dX12_areSlotsAlike_31 hr (fun v9 hr => ?_)
      refine lv_iload_n X.1 X.2.1 dX12_areSlotsAlike_34 rfl (mz_at hl 1 rfl) ?_
      refine mz_iald X hH dX12_areSlotsAlike_35 hr (fun v10 hr => ?_)
      refine mz_aload_n X dX12_areSlotsAlike_36 rfl (mz_at hl 0 rfl) ?_
      refine mz_getR X hH fl_RX12_87 dX12_areSlotsAlike_37 hr (fun v11 hr => ?_)
      refine lv_iload_n X.1 X.2.1 dX12_areSlotsAlike_40 rfl (mz_at hl 2 rfl) ?_
      refine mz_iald X hH dX12_areSlotsAlike_41 hr (fun v12 hr => ?_)
      refine mz_icmp_ne X 60 dX12_areSlotsAlike_42 (by decide) hr (fun hr => ?_) (fun hr => ?_)
      · refine lv_iconst (v := 0) X.1 X.2.1 dX12_areSlotsAlike_60 (by decide) ?_
        exact mz_zret Y dX12_areSlotsAlike_61 hH hS hc hs hr
      · refine mz_aload_n X dX12_areSlotsAlike_45 rfl (mz_at hl 0 rfl) ?_
        refine mz_getR X hH fl_RX12_93 dX12_areSlotsAlike_46 hr (fun v13 hr => ?_)
        refine lv_iload_n X.1 X.2.1 dX12_areSlotsAlike_49 rfl (mz_at hl 1 rfl) ?_
        refine mz_zald X hH dX12_areSlotsAlike_50 hr (fun v14 hr => ?_)
        refine mz_aload_n X dX12_areSlotsAlike_51 rfl (mz_at hl 0 rfl) ?_
        refine mz_getR X hH fl_RX12_93 dX12_areSlotsAlike_52 hr (fun v15 hr => ?_)
        refine lv_iload_n X.1 X.2.1 dX12_areSlotsAlike_55 rfl (mz_at hl 2 rfl) ?_
        refine mz_zald X hH dX12_areSlotsAlike_56 hr (fun v16 hr => ?_)
        refine mz_icmp_eq X 62 dX12_areSlotsAlike_57 (by decide) hr (fun hr => ?_) (fun hr => ?_)
        · refine mz_aload_n X dX12_areSlotsAlike_62 rfl (mz_at hl 0 rfl) ?_
          refine mz_getR X hH fl_RX12_93 dX12_areSlotsAlike_63 hr (fun v17 hr => ?_)
          refine lv_iload_n X.1 X.2.1 dX12_areSlotsAlike_66 rfl (mz_at hl 1 rfl) ?_
          refine mz_zald X hH dX12_areSlotsAlike_67 hr (fun v18 hr => ?_)
          refine mz_if_ne X 73 dX12_areSlotsAlike_68 (by decide) hr (fun hr => ?_) (fun hr => ?_)
          · refine mz_aload_n X dX12_areSlotsAlike_73 rfl (mz_at hl 0 rfl) ?_
            refine mz_getR X hH fl_RX12_96 dX12_areSlotsAlike_74 hr (fun v19 hr => ?_)
            refine lv_iload_n X.1 X.2.1 dX12_areSlotsAlike_77 rfl (mz_at hl 1 rfl) ?_
            refine mz_iald X hH dX12_areSlotsAlike_78 hr (fun v20 hr => ?_)
            refine mz_aload_n X dX12_areSlotsAlike_79 rfl (mz_at hl 0 rfl) ?_
            refine mz_getR X hH fl_RX12_96 dX12_areSlotsAlike_80 hr (fun v21 hr => ?_)
            refine lv_iload_n X.1 X.2.1 dX12_areSlotsAlike_83 rfl (mz_at hl 2 rfl) ?_
            refine mz_iald X hH dX12_areSlotsAlike_84 hr (fun v22 hr => ?_)
            refine mz_icmp_eq X 90 dX12_areSlotsAlike_85 (by decide) hr (fun hr => ?_) (fun hr => ?_)
            · refine mz_aload_n X dX12_areSlotsAlike_90 rfl (mz_at hl 0 rfl) ?_
              refine mz_getR X hH fl_RX12_87 dX12_areSlotsAlike_91 hr (fun v23 hr => ?_)
              refine lv_iload_n X.1 X.2.1 dX12_areSlotsAlike_94 rfl (mz_at hl 1 rfl) ?_
              refine mz_iald X hH dX12_areSlotsAlike_95 hr (fun v24 hr => ?_)
              refine lv_iconst (v := 2) X.1 X.2.1 dX12_areSlotsAlike_96 (by decide) ?_
              refine mz_icmp_ge X 114 dX12_areSlotsAlike_97 (by decide) hr (fun hr => ?_) (fun hr => ?_)
              · refine lv_iconst (v := 1) X.1 X.2.1 dX12_areSlotsAlike_114 (by decide) ?_
                refine mz_istore_n X [(3, false, .int 1), (0, false, va_rf a0), (1, false, .int x1), (2, false, .int x2)] dX12_areSlotsAlike_115 rfl hl (by decide) rfl (fun ls hl => ?_)
                refine lv_iconst (v := 0) X.1 X.2.1 dX12_areSlotsAlike_116 (by decide) ?_
                refine mz_istore X [(4, false, .int 0), (3, false, .int 1), (0, false, va_rf a0), (1, false, .int x1), (2, false, .int x2)] dX12_areSlotsAlike_117 hl (by decide) rfl (fun ls hl => ?_)
                exact pf_X12_areSlotsAlike_b119 r Y 1001 h a0 x1 x2 1 0 _ _ hr H locs cells slots ls hH hS (mz_sub hl [2, 3, 4, 1, 0] rfl) hc hs
              · refine mz_aload_n X dX12_areSlotsAlike_100 rfl (mz_at hl 0 rfl) ?_
                refine lv_iload_n X.1 X.2.1 dX12_areSlotsAlike_101 rfl (mz_at hl 1 rfl) ?_
                refine lv_iload_n X.1 X.2.1 dX12_areSlotsAlike_102 rfl (mz_at hl 2 rfl) ?_
                refine lv_iconst (v := 0) X.1 X.2.1 dX12_areSlotsAlike_103 (by decide) ?_
                refine mz_aload_n X dX12_areSlotsAlike_104 rfl (mz_at hl 0 rfl) ?_
                refine mz_getR X hH fl_RX12_96 dX12_areSlotsAlike_105 hr (fun v25 hr => ?_)
                refine lv_iload_n X.1 X.2.1 dX12_areSlotsAlike_108 rfl (mz_at hl 1 rfl) ?_
                refine mz_iald X hH dX12_areSlotsAlike_109 hr (fun v26 hr => ?_)
                refine mz_kV Value.int X hH hS hl.1.1 [.int x1, .int x2, .int 0, .int v26] [] hr (ct_X12_areCellsAlike l g h a0 x1 x2 0 v26) mb_RX12_272 rfl im_X12_areCellsAlike rfl (Nat.le_of_ble_eq_true rfl) ⟨Nat.le_of_ble_eq_true rfl, Nat.le_of_ble_eq_true rfl⟩ hc hs dX12_areSlotsAlike_110 rfl (fun v27 h H locs cells slots dc ds hr hH hS hc hs => ?_)
                exact mz_zret Y dX12_areSlotsAlike_113 hH hS hc hs hr
            · refine lv_iconst (v := 0) X.1 X.2.1 dX12_areSlotsAlike_88 (by decide) ?_
              exact mz_zret Y dX12_areSlotsAlike_89 hH hS hc hs hr
          · refine lv_iconst (v := 1) X.1 X.2.1 dX12_areSlotsAlike_71 (by decide) ?_
            exact mz_zret Y dX12_areSlotsAlike_72 hH hS hc hs hr
        · refine lv_iconst (v := 0) X.1 X.2.1 dX12_areSlotsAlike_60 (by decide) ?_
          exact mz_zret Y dX12_areSlotsAlike_61 hH hS hc hs hr
set_option maxRecDepth 100000 in
theorem ct_X12_areSlotsAlike (l : Launch) (g : mz_G) (h : mz_H) (a0 : (Option Nat)) (x1 : Int32) (x2 : Int32) (r : Int32) (hf : mz_H) (k n : Nat) (hr : fn_X12_areSlotsAlike h a0 x1 x2 = some (r, hf, k, n)) : mz_C l g yX12_areSlotsAlike cX12_areSlotsAlike 7 (some .boolean) 1 26 [va_rf a0, .int x1, .int x2] h (some (Value.int r)) hf k n := by
  refine mz_met (as := [(false, va_rf a0), (false, .int x1), (false, .int x2)]) (plainFor_of_name (by decide)) (mz_c1 (mz_cat_rf _) (mz_c1 rfl (mz_c1 rfl mz_c0))) (Nat.le_of_ble_eq_true rfl) ?_
  intro p e s m args below meth c Y
  exact pf_X12_areSlotsAlike_b0 r Y h a0 x1 x2 _ _ hr
theorem dX12_alike_0 : decode cX12_alike 0 = .ok (.aload_n 0, 1) := by decide +kernel
theorem dX12_alike_1 : decode cX12_alike 1 = .ok (.iload_n 1, 1) := by decide +kernel
theorem dX12_alike_2 : decode cX12_alike 2 = .ok (.invokevirtual 214, 3) := by decide +kernel
theorem dX12_alike_5 : decode cX12_alike 5 = .ok (.ifCond .eq 11, 3) := by decide +kernel
theorem dX12_alike_8 : decode cX12_alike 8 = .ok (.aload_n 0, 1) := by decide +kernel
theorem dX12_alike_9 : decode cX12_alike 9 = .ok (.iload_n 2, 1) := by decide +kernel
theorem dX12_alike_10 : decode cX12_alike 10 = .ok (.invokevirtual 214, 3) := by decide +kernel
theorem dX12_alike_13 : decode cX12_alike 13 = .ok (.ifCond .ne 5, 3) := by decide +kernel
theorem dX12_alike_16 : decode cX12_alike 16 = .ok (.iconst (-1), 1) := by decide +kernel
theorem dX12_alike_17 : decode cX12_alike 17 = .ok (.ireturn, 1) := by decide +kernel
theorem dX12_alike_18 : decode cX12_alike 18 = .ok (.aload_n 0, 1) := by decide +kernel
theorem dX12_alike_19 : decode cX12_alike 19 = .ok (.getfield 75, 3) := by decide +kernel
theorem dX12_alike_22 : decode cX12_alike 22 = .ok (.iload_n 1, 1) := by decide +kernel
theorem dX12_alike_23 : decode cX12_alike 23 = .ok (.iaload, 1) := by decide +kernel
theorem dX12_alike_24 : decode cX12_alike 24 = .ok (.aload_n 0, 1) := by decide +kernel
theorem dX12_alike_25 : decode cX12_alike 25 = .ok (.getfield 75, 3) := by decide +kernel
theorem dX12_alike_28 : decode cX12_alike 28 = .ok (.iload_n 2, 1) := by decide +kernel
theorem dX12_alike_29 : decode cX12_alike 29 = .ok (.iaload, 1) := by decide +kernel
theorem dX12_alike_30 : decode cX12_alike 30 = .ok (.if_icmp .ne 22, 3) := by decide +kernel
theorem dX12_alike_33 : decode cX12_alike 33 = .ok (.aload_n 0, 1) := by decide +kernel
theorem dX12_alike_34 : decode cX12_alike 34 = .ok (.getfield 78, 3) := by decide +kernel
theorem dX12_alike_37 : decode cX12_alike 37 = .ok (.iload_n 1, 1) := by decide +kernel
theorem dX12_alike_38 : decode cX12_alike 38 = .ok (.iaload, 1) := by decide +kernel
theorem dX12_alike_39 : decode cX12_alike 39 = .ok (.aload_n 0, 1) := by decide +kernel
theorem dX12_alike_40 : decode cX12_alike 40 = .ok (.getfield 78, 3) := by decide +kernel
theorem dX12_alike_43 : decode cX12_alike 43 = .ok (.iload_n 2, 1) := by decide +kernel
theorem dX12_alike_44 : decode cX12_alike 44 = .ok (.iaload, 1) := by decide +kernel
theorem dX12_alike_45 : decode cX12_alike 45 = .ok (.if_icmp .ne 7, 3) := by decide +kernel
theorem dX12_alike_48 : decode cX12_alike 48 = .ok (.iconst 1, 1) := by decide +kernel
theorem dX12_alike_49 : decode cX12_alike 49 = .ok (.goto 4, 3) := by decide +kernel
theorem dX12_alike_52 : decode cX12_alike 52 = .ok (.iconst 0, 1) := by decide +kernel
theorem dX12_alike_53 : decode cX12_alike 53 = .ok (.istore_n 3, 1) := by decide +kernel
theorem dX12_alike_54 : decode cX12_alike 54 = .ok (.iconst 0, 1) := by decide +kernel
theorem dX12_alike_55 : decode cX12_alike 55 = .ok (.istore 4, 2) := by decide +kernel
theorem dX12_alike_57 : decode cX12_alike 57 = .ok (.iload 4, 2) := by decide +kernel
theorem dX12_alike_59 : decode cX12_alike 59 = .ok (.aload_n 0, 1) := by decide +kernel
theorem dX12_alike_60 : decode cX12_alike 60 = .ok (.getfield 78, 3) := by decide +kernel
theorem dX12_alike_63 : decode cX12_alike 63 = .ok (.iload_n 1, 1) := by decide +kernel
theorem dX12_alike_64 : decode cX12_alike 64 = .ok (.iaload, 1) := by decide +kernel
theorem dX12_alike_65 : decode cX12_alike 65 = .ok (.if_icmp .ge 32, 3) := by decide +kernel
theorem dX12_alike_68 : decode cX12_alike 68 = .ok (.iload_n 3, 1) := by decide +kernel
theorem dX12_alike_69 : decode cX12_alike 69 = .ok (.ifCond .eq 28, 3) := by decide +kernel
theorem dX12_alike_72 : decode cX12_alike 72 = .ok (.aload_n 0, 1) := by decide +kernel
theorem dX12_alike_73 : decode cX12_alike 73 = .ok (.bipush 16, 2) := by decide +kernel
theorem dX12_alike_75 : decode cX12_alike 75 = .ok (.iload_n 1, 1) := by decide +kernel
theorem dX12_alike_76 : decode cX12_alike 76 = .ok (.imul, 1) := by decide +kernel
theorem dX12_alike_77 : decode cX12_alike 77 = .ok (.iload 4, 2) := by decide +kernel
theorem dX12_alike_79 : decode cX12_alike 79 = .ok (.iadd, 1) := by decide +kernel
theorem dX12_alike_80 : decode cX12_alike 80 = .ok (.bipush 16, 2) := by decide +kernel
theorem dX12_alike_82 : decode cX12_alike 82 = .ok (.iload_n 2, 1) := by decide +kernel
theorem dX12_alike_83 : decode cX12_alike 83 = .ok (.imul, 1) := by decide +kernel
theorem dX12_alike_84 : decode cX12_alike 84 = .ok (.iload 4, 2) := by decide +kernel
theorem dX12_alike_86 : decode cX12_alike 86 = .ok (.iadd, 1) := by decide +kernel
theorem dX12_alike_87 : decode cX12_alike 87 = .ok (.invokevirtual 276, 3) := by decide +kernel
theorem dX12_alike_90 : decode cX12_alike 90 = .ok (.istore_n 3, 1) := by decide +kernel
theorem dX12_alike_91 : decode cX12_alike 91 = .ok (.iinc 4 1, 3) := by decide +kernel
theorem dX12_alike_94 : decode cX12_alike 94 = .ok (.goto (-37), 3) := by decide +kernel
theorem dX12_alike_97 : decode cX12_alike 97 = .ok (.iload_n 3, 1) := by decide +kernel
theorem dX12_alike_98 : decode cX12_alike 98 = .ok (.ifCond .eq 7, 3) := by decide +kernel
theorem dX12_alike_101 : decode cX12_alike 101 = .ok (.iconst 1, 1) := by decide +kernel
theorem dX12_alike_102 : decode cX12_alike 102 = .ok (.goto 4, 3) := by decide +kernel
theorem dX12_alike_105 : decode cX12_alike 105 = .ok (.iconst 0, 1) := by decide +kernel
theorem dX12_alike_106 : decode cX12_alike 106 = .ok (.ireturn, 1) := by decide +kernel
def fn_X12_alike_b97 (h : mz_H) (x3 : Int32) : mz_Res Int32 :=
  if x3 = 0 then
    mz_ret 0 h
  else
    mz_ret 1 h
set_option maxHeartbeats 4000000 in
set_option maxRecDepth 100000 in
theorem pf_X12_alike_b97 (r : Int32) (Y : mz_Y p g RX12 cX12_alike 5 (some .int) "alike" (mz_AF h0) s m args meth c) (h : mz_H) (x3 : Int32) (dc ds : Nat) (hr : fn_X12_alike_b97 h x3 = some (r, hf, dc, ds)) : mz_Go l g p e s m args below meth c 2 52 DC DS h0 (some (Value.int r)) hf 5 97 [(3, false, .int x3)] [] h dc ds := by
  unfold fn_X12_alike_b97 at hr
  intro H locs cells slots ls hH hS hl hc hs
  have X := Y.1
  refine lv_iload_n X.1 X.2.1 dX12_alike_97 rfl (mz_at hl 0 rfl) ?_
  refine mz_if_eq X 105 dX12_alike_98 (by decide) hr (fun hr => ?_) (fun hr => ?_)
  · refine lv_iconst (v := 0) X.1 X.2.1 dX12_alike_105 (by decide) ?_
    exact mz_iret Y dX12_alike_106 hH hS hc hs hr
  · refine lv_iconst (v := 1) X.1 X.2.1 dX12_alike_101 (by decide) ?_
    refine lv_goto (tgt := 106) X.1 X.2.1 dX12_alike_102 (by decide) ?_
    exact mz_iret Y dX12_alike_106 hH hS hc hs hr
def fn_X12_alike_b57 : Nat → mz_H → (Option Nat) → Int32 → Int32 → Int32 → Int32 → mz_Res Int32
  | 0, _, _, _, _, _, _ => none
  | n + 1, h, a0, x1, x2, x3, x4 =>
    mz_op (mz_fR h a0 11 34) fun v1 =>
    mz_op (mz_aI h v1 0 x1) fun v2 =>
    if v2 ≤ x4 then
      fn_X12_alike_b97 h x3
    else
      if x3 = 0 then
        fn_X12_alike_b97 h x3
      else
        mz_chk (mz_is h a0 11) <| mz_call (fn_X12_areSlotsAlike h a0 ((16 * x1) + x4) ((16 * x2) + x4)) fun v3 h =>
        mz_op (some (x4 + 1)) fun v4 =>
        fn_X12_alike_b57 n h a0 x1 x2 v3 v4
set_option maxHeartbeats 4000000 in
set_option maxRecDepth 100000 in
theorem pf_X12_alike_b57 (r : Int32) (Y : mz_Y p g RX12 cX12_alike 5 (some .int) "alike" (mz_AF h0) s m args meth c) : ∀ (n : Nat) (h : mz_H) (a0 : (Option Nat)) (x1 : Int32) (x2 : Int32) (x3 : Int32) (x4 : Int32) (dc ds : Nat), fn_X12_alike_b57 n h a0 x1 x2 x3 x4 = some (r, hf, dc, ds) → mz_Go l g p e s m args below meth c 2 52 DC DS h0 (some (Value.int r)) hf 5 57 [(0, false, va_rf a0), (1, false, .int x1), (2, false, .int x2), (3, false, .int x3), (4, false, .int x4)] [] h dc ds := by
  have X := Y.1
  intro n
  induction n with
  | zero => intro h a0 x1 x2 x3 x4 dc ds hr; simp [fn_X12_alike_b57] at hr
  | succ n ih =>
    intro h a0 x1 x2 x3 x4 dc ds hr
    rw [fn_X12_alike_b57] at hr
    intro H locs cells slots ls hH hS hl hc hs
    refine lv_iload X.1 X.2.1 dX12_alike_57 (mz_at hl 4 rfl) ?_
    refine mz_aload_n X dX12_alike_59 rfl (mz_at hl 0 rfl) ?_
    refine mz_getR X hH fl_RX12_78 dX12_alike_60 hr (fun v1 hr => ?_)
    refine lv_iload_n X.1 X.2.1 dX12_alike_63 rfl (mz_at hl 1 rfl) ?_
    refine mz_iald X hH dX12_alike_64 hr (fun v2 hr => ?_)
    refine mz_icmp_ge X 97 dX12_alike_65 (by decide) hr (fun hr => ?_) (fun hr => ?_)
    · exact pf_X12_alike_b97 r Y h x3 _ _ hr H locs cells slots ls hH hS (mz_sub hl [3] rfl) hc hs
    · refine lv_iload_n X.1 X.2.1 dX12_alike_68 rfl (mz_at hl 3 rfl) ?_
      refine mz_if_eq X 97 dX12_alike_69 (by decide) hr (fun hr => ?_) (fun hr => ?_)
      · exact pf_X12_alike_b97 r Y h x3 _ _ hr H locs cells slots ls hH hS (mz_sub hl [3] rfl) hc hs
      · refine mz_aload_n X dX12_alike_72 rfl (mz_at hl 0 rfl) ?_
        refine lv_bipush (v := 16) X.1 X.2.1 dX12_alike_73 (by decide) ?_
        refine lv_iload_n X.1 X.2.1 dX12_alike_75 rfl (mz_at hl 1 rfl) ?_
        refine lv_imul X.1 X.2.1 dX12_alike_76 ?_
        refine lv_iload X.1 X.2.1 dX12_alike_77 (mz_at hl 4 rfl) ?_
        refine lv_iadd X.1 X.2.1 dX12_alike_79 ?_
        refine lv_bipush (v := 16) X.1 X.2.1 dX12_alike_80 (by decide) ?_
        refine lv_iload_n X.1 X.2.1 dX12_alike_82 rfl (mz_at hl 2 rfl) ?_
        refine lv_imul X.1 X.2.1 dX12_alike_83 ?_
        refine lv_iload X.1 X.2.1 dX12_alike_84 (mz_at hl 4 rfl) ?_
        refine lv_iadd X.1 X.2.1 dX12_alike_86 ?_
        refine mz_kV Value.int X hH hS hl.1.1 [.int ((16 * x1) + x4), .int ((16 * x2) + x4)] [] hr (ct_X12_areSlotsAlike l g h a0 ((16 * x1) + x4) ((16 * x2) + x4)) mb_RX12_276 rfl im_X12_areSlotsAlike rfl (Nat.le_of_ble_eq_true rfl) ⟨Nat.le_of_ble_eq_true rfl, Nat.le_of_ble_eq_true rfl⟩ hc hs dX12_alike_87 rfl (fun v3 h H locs cells slots dc ds hr hH hS hc hs => ?_)
        refine mz_istore_n X [(3, false, .int v3), (0, false, va_rf a0), (1, false, .int x1), (2, false, .int x2), (4, false, .int x4)] dX12_alike_90 rfl hl (by decide) rfl (fun ls hl => ?_)
        obtain ⟨v4, hv4, hr⟩ := mz_op_some hr
        have hv4 := Option.some.inj hv4
        refine mz_iinc (k := 4) X [(4, false, .int v4), (3, false, .int v3), (0, false, va_rf a0), (1, false, .int x1), (2, false, .int x2)] v4 dX12_alike_91 hl rfl hv4 (by decide) rfl (fun ls hl => ?_)
        refine lv_goto (tgt := 57) X.1 X.2.1 dX12_alike_94 (by decide) ?_
        exact ih h a0 x1 x2 v3 v4 _ _ hr H locs cells slots ls hH hS (mz_sub hl [2, 3, 4, 1, 0] rfl) hc hs
def fn_X12_alike_b53 (h : mz_H) (a0 : (Option Nat)) (x1 : Int32) (x2 : Int32) (s0 : Int32) : mz_Res Int32 :=
  fn_X12_alike_b57 1001 h a0 x1 x2 s0 0
set_option maxHeartbeats 4000000 in
set_option maxRecDepth 100000 in
theorem pf_X12_alike_b53 (r : Int32) (Y : mz_Y p g RX12 cX12_alike 5 (some .int) "alike" (mz_AF h0) s m args meth c) (h : mz_H) (a0 : (Option Nat)) (x1 : Int32) (x2 : Int32) (s0 : Int32) (dc ds : Nat) (hr : fn_X12_alike_b53 h a0 x1 x2 s0 = some (r, hf, dc, ds)) : mz_Go l g p e s m args below meth c 2 52 DC DS h0 (some (Value.int r)) hf 5 53 [(0, false, va_rf a0), (1, false, .int x1), (2, false, .int x2)] [.int s0] h dc ds := by
  unfold fn_X12_alike_b53 at hr
  intro H locs cells slots ls hH hS hl hc hs
  have X := Y.1
  refine mz_istore_n X [(3, false, .int s0), (0, false, va_rf a0), (1, false, .int x1), (2, false, .int x2)] dX12_alike_53 rfl hl (by decide) rfl (fun ls hl => ?_)
  refine lv_iconst (v := 0) X.1 X.2.1 dX12_alike_54 (by decide) ?_
  refine mz_istore X [(4, false, .int 0), (3, false, .int s0), (0, false, va_rf a0), (1, false, .int x1), (2, false, .int x2)] dX12_alike_55 hl (by decide) rfl (fun ls hl => ?_)
  exact pf_X12_alike_b57 r Y 1001 h a0 x1 x2 s0 0 _ _ hr H locs cells slots ls hH hS (mz_sub hl [2, 3, 4, 1, 0] rfl) hc hs
def fn_X12_alike_b52 (h : mz_H) (a0 : (Option Nat)) (x1 : Int32) (x2 : Int32) : mz_Res Int32 :=
  fn_X12_alike_b53 h a0 x1 x2 0
set_option maxHeartbeats 4000000 in
set_option maxRecDepth 100000 in
theorem pf_X12_alike_b52 (r : Int32) (Y : mz_Y p g RX12 cX12_alike 5 (some .int) "alike" (mz_AF h0) s m args meth c) (h : mz_H) (a0 : (Option Nat)) (x1 : Int32) (x2 : Int32) (dc ds : Nat) (hr : fn_X12_alike_b52 h a0 x1 x2 = some (r, hf, dc, ds)) : mz_Go l g p e s m args below meth c 2 52 DC DS h0 (some (Value.int r)) hf 5 52 [(0, false, va_rf a0), (1, false, .int x1), (2, false, .int x2)] [] h dc ds := by
  unfold fn_X12_alike_b52 at hr
  intro H locs cells slots ls hH hS hl hc hs
  have X := Y.1
  refine lv_iconst (v := 0) X.1 X.2.1 dX12_alike_52 (by decide) ?_
  exact pf_X12_alike_b53 r Y h a0 x1 x2 0 _ _ hr H locs cells slots ls hH hS (mz_sub hl [0, 1, 2] rfl) hc hs
def fn_X12_alike (h : mz_H) (a0 : (Option Nat)) (x1 : Int32) (x2 : Int32) : mz_Res Int32 :=
  mz_chk (mz_is h a0 11) <| mz_call (fn_X12_isObject h a0 x1) fun v1 h =>
  if v1 = 0 then
    mz_ret (-1) h
  else
    mz_chk (mz_is h a0 11) <| mz_call (fn_X12_isObject h a0 x2) fun v2 h =>
    if v2 = 0 then
      mz_ret (-1) h
    else
      mz_op (mz_fR h a0 11 33) fun v3 =>
      mz_op (mz_aI h v3 0 x1) fun v4 =>
      mz_op (mz_fR h a0 11 33) fun v5 =>
      mz_op (mz_aI h v5 0 x2) fun v6 =>
      if v4 = v6 then
        mz_op (mz_fR h a0 11 34) fun v7 =>
        mz_op (mz_aI h v7 0 x1) fun v8 =>
        mz_op (mz_fR h a0 11 34) fun v9 =>
        mz_op (mz_aI h v9 0 x2) fun v10 =>
        if v8 = v10 then
          fn_X12_alike_b53 h a0 x1 x2 1
        else
          fn_X12_alike_b52 h a0 x1 x2
      else
        fn_X12_alike_b52 h a0 x1 x2
set_option maxHeartbeats 4000000 in
set_option maxRecDepth 100000 in
theorem pf_X12_alike_b0 (r : Int32) (Y : mz_Y p g RX12 cX12_alike 5 (some .int) "alike" (mz_AF h0) s m args meth c) (h : mz_H) (a0 : (Option Nat)) (x1 : Int32) (x2 : Int32) (dc ds : Nat) (hr : fn_X12_alike h a0 x1 x2 = some (r, hf, dc, ds)) : mz_Go l g p e s m args below meth c 2 52 DC DS h0 (some (Value.int r)) hf 5 0 [(0, false, va_rf a0), (1, false, .int x1), (2, false, .int x2)] [] h dc ds := by
  unfold fn_X12_alike at hr
  intro H locs cells slots ls hH hS hl hc hs
  have X := Y.1
  refine mz_aload_n X dX12_alike_0 rfl (mz_at hl 0 rfl) ?_
  refine lv_iload_n X.1 X.2.1 dX12_alike_1 rfl (mz_at hl 1 rfl) ?_
  refine mz_kV Value.int X hH hS hl.1.1 [.int x1] [] hr (ct_X12_isObject l g h a0 x1) mb_RX12_214 rfl im_X12_isObject rfl (Nat.le_of_ble_eq_true rfl) ⟨Nat.le_of_ble_eq_true rfl, Nat.le_of_ble_eq_true rfl⟩ hc hs dX12_alike_2 rfl (fun v1 h H locs cells slots dc ds hr hH hS hc hs => ?_)
  refine mz_if_eq X 16 dX12_alike_5 (by decide) hr (fun hr => ?_) (fun hr => ?_)
  · refine lv_iconst (v := (-1)) X.1 X.2.1 dX12_alike_16 (by decide) ?_
    exact mz_iret Y dX12_alike_17 hH hS hc hs hr
  · refine mz_aload_n X dX12_alike_8 rfl (mz_at hl 0 rfl) ?_
    refine lv_iload_n X.1 X.2.1 dX12_alike_9 rfl (mz_at hl 2 rfl) ?_
    refine mz_kV Value.int X hH hS hl.1.1 [.int x2] [] hr (ct_X12_isObject l g h a0 x2) mb_RX12_214 rfl im_X12_isObject rfl (Nat.le_of_ble_eq_true rfl) ⟨Nat.le_of_ble_eq_true rfl, Nat.le_of_ble_eq_true rfl⟩ hc hs dX12_alike_10 rfl (fun v2 h H locs cells slots dc ds hr hH hS hc hs => ?_)
    refine mz_if_ne X 18 dX12_alike_13 (by decide) hr (fun hr => ?_) (fun hr => ?_)
    · refine mz_aload_n X dX12_alike_18 rfl (mz_at hl 0 rfl) ?_
      refine mz_getR X hH fl_RX12_75 dX12_alike_19 hr (fun v3 hr => ?_)
      refine lv_iload_n X.1 X.2.1 dX12_alike_22 rfl (mz_at hl 1 rfl) ?_
      refine mz_iald X hH dX12_alike_23 hr (fun v4 hr => ?_)
      refine mz_aload_n X dX12_alike_24 rfl (mz_at hl 0 rfl) ?_
      refine mz_getR X hH fl_RX12_75 dX12_alike_25 hr (fun v5 hr => ?_)
      refine lv_iload_n X.1 X.2.1 dX12_alike_28 rfl (mz_at hl 2 rfl) ?_
      refine mz_iald X hH dX12_alike_29 hr (fun v6 hr => ?_)
      refine mz_icmp_ne X 52 dX12_alike_30 (by decide) hr (fun hr => ?_) (fun hr => ?_)
      · exact pf_X12_alike_b52 r Y h a0 x1 x2 _ _ hr H locs cells slots ls hH hS (mz_sub hl [0, 1, 2] rfl) hc hs
      · refine mz_aload_n X dX12_alike_33 rfl (mz_at hl 0 rfl) ?_
        refine mz_getR X hH fl_RX12_78 dX12_alike_34 hr (fun v7 hr => ?_)
        refine lv_iload_n X.1 X.2.1 dX12_alike_37 rfl (mz_at hl 1 rfl) ?_
        refine mz_iald X hH dX12_alike_38 hr (fun v8 hr => ?_)
        refine mz_aload_n X dX12_alike_39 rfl (mz_at hl 0 rfl) ?_
        refine mz_getR X hH fl_RX12_78 dX12_alike_40 hr (fun v9 hr => ?_)
        refine lv_iload_n X.1 X.2.1 dX12_alike_43 rfl (mz_at hl 2 rfl) ?_
        refine mz_iald X hH dX12_alike_44 hr (fun v10 hr => ?_)
        refine mz_icmp_ne X 52 dX12_alike_45 (by decide) hr (fun hr => ?_) (fun hr => ?_)
        · exact pf_X12_alike_b52 r Y h a0 x1 x2 _ _ hr H locs cells slots ls hH hS (mz_sub hl [0, 1, 2] rfl) hc hs
        · refine lv_iconst (v := 1) X.1 X.2.1 dX12_alike_48 (by decide) ?_
          refine lv_goto (tgt := 53) X.1 X.2.1 dX12_alike_49 (by decide) ?_
          exact pf_X12_alike_b53 r Y h a0 x1 x2 1 _ _ hr H locs cells slots ls hH hS (mz_sub hl [0, 1, 2] rfl) hc hs
    · refine lv_iconst (v := (-1)) X.1 X.2.1 dX12_alike_16 (by decide) ?_
      exact mz_iret Y dX12_alike_17 hH hS hc hs hr
set_option maxRecDepth 100000 in
theorem ct_X12_alike (l : Launch) (g : mz_G) (h : mz_H) (a0 : (Option Nat)) (x1 : Int32) (x2 : Int32) (r : Int32) (hf : mz_H) (k n : Nat) (hr : fn_X12_alike h a0 x1 x2 = some (r, hf, k, n)) : mz_C l g yX12_alike cX12_alike 5 (some .int) 2 52 [va_rf a0, .int x1, .int x2] h (some (Value.int r)) hf k n := by
  refine mz_met (as := [(false, va_rf a0), (false, .int x1), (false, .int x2)]) (plainFor_of_name (by decide)) (mz_c1 (mz_cat_rf _) (mz_c1 rfl (mz_c1 rfl mz_c0))) (Nat.le_of_ble_eq_true rfl) ?_
  intro p e s m args below meth c Y
  exact pf_X12_alike_b0 r Y h a0 x1 x2 _ _ hr
theorem dX12_find_0 : decode cX12_find 0 = .ok (.aload_n 0, 1) := by decide +kernel
theorem dX12_find_1 : decode cX12_find 1 = .ok (.iload_n 1, 1) := by decide +kernel
theorem dX12_find_2 : decode cX12_find 2 = .ok (.invokevirtual 138, 3) := by decide +kernel
theorem dX12_find_5 : decode cX12_find 5 = .ok (.ifCond .ne 5, 3) := by decide +kernel
theorem dX12_find_8 : decode cX12_find 8 = .ok (.iconst (-1), 1) := by decide +kernel
theorem dX12_find_9 : decode cX12_find 9 = .ok (.ireturn, 1) := by decide +kernel
theorem dX12_find_10 : decode cX12_find 10 = .ok (.iconst 0, 1) := by decide +kernel
theorem dX12_find_11 : decode cX12_find 11 = .ok (.istore 4, 2) := by decide +kernel
theorem dX12_find_13 : decode cX12_find 13 = .ok (.iload 4, 2) := by decide +kernel
theorem dX12_find_15 : decode cX12_find 15 = .ok (.aload_n 0, 1) := by decide +kernel
theorem dX12_find_16 : decode cX12_find 16 = .ok (.getfield 211, 3) := by decide +kernel
theorem dX12_find_19 : decode cX12_find 19 = .ok (.if_icmp .ge 126, 3) := by decide +kernel
theorem dX12_find_22 : decode cX12_find 22 = .ok (.iconst 0, 1) := by decide +kernel
theorem dX12_find_23 : decode cX12_find 23 = .ok (.istore 5, 2) := by decide +kernel
theorem dX12_find_25 : decode cX12_find 25 = .ok (.iconst 0, 1) := by decide +kernel
theorem dX12_find_26 : decode cX12_find 26 = .ok (.istore 6, 2) := by decide +kernel
theorem dX12_find_28 : decode cX12_find 28 = .ok (.iload 6, 2) := by decide +kernel
theorem dX12_find_30 : decode cX12_find 30 = .ok (.aload_n 0, 1) := by decide +kernel
theorem dX12_find_31 : decode cX12_find 31 = .ok (.getfield 78, 3) := by decide +kernel
theorem dX12_find_34 : decode cX12_find 34 = .ok (.iload 4, 2) := by decide +kernel
theorem dX12_find_36 : decode cX12_find 36 = .ok (.iaload, 1) := by decide +kernel
theorem dX12_find_37 : decode cX12_find 37 = .ok (.if_icmp .ge 79, 3) := by decide +kernel
theorem dX12_find_40 : decode cX12_find 40 = .ok (.bipush 16, 2) := by decide +kernel
theorem dX12_find_42 : decode cX12_find 42 = .ok (.iload 4, 2) := by decide +kernel
theorem dX12_find_44 : decode cX12_find 44 = .ok (.imul, 1) := by decide +kernel
theorem dX12_find_45 : decode cX12_find 45 = .ok (.iload 6, 2) := by decide +kernel
theorem dX12_find_47 : decode cX12_find 47 = .ok (.iadd, 1) := by decide +kernel
theorem dX12_find_48 : decode cX12_find 48 = .ok (.istore 7, 2) := by decide +kernel
theorem dX12_find_50 : decode cX12_find 50 = .ok (.iload 5, 2) := by decide +kernel
theorem dX12_find_52 : decode cX12_find 52 = .ok (.aload_n 0, 1) := by decide +kernel
theorem dX12_find_53 : decode cX12_find 53 = .ok (.getfield 90, 3) := by decide +kernel
theorem dX12_find_56 : decode cX12_find 56 = .ok (.iload 7, 2) := by decide +kernel
theorem dX12_find_58 : decode cX12_find 58 = .ok (.iaload, 1) := by decide +kernel
theorem dX12_find_59 : decode cX12_find 59 = .ok (.iconst 4, 1) := by decide +kernel
theorem dX12_find_60 : decode cX12_find 60 = .ok (.iand, 1) := by decide +kernel
theorem dX12_find_61 : decode cX12_find 61 = .ok (.ifCond .eq 45, 3) := by decide +kernel
theorem dX12_find_64 : decode cX12_find 64 = .ok (.aload_n 0, 1) := by decide +kernel
theorem dX12_find_65 : decode cX12_find 65 = .ok (.getfield 87, 3) := by decide +kernel
theorem dX12_find_68 : decode cX12_find 68 = .ok (.iload 7, 2) := by decide +kernel
theorem dX12_find_70 : decode cX12_find 70 = .ok (.iaload, 1) := by decide +kernel
theorem dX12_find_71 : decode cX12_find 71 = .ok (.ifCond .ne 35, 3) := by decide +kernel
theorem dX12_find_74 : decode cX12_find 74 = .ok (.aload_n 0, 1) := by decide +kernel
theorem dX12_find_75 : decode cX12_find 75 = .ok (.getfield 84, 3) := by decide +kernel
theorem dX12_find_78 : decode cX12_find 78 = .ok (.iload 7, 2) := by decide +kernel
theorem dX12_find_80 : decode cX12_find 80 = .ok (.iaload, 1) := by decide +kernel
theorem dX12_find_81 : decode cX12_find 81 = .ok (.bipush 8, 2) := by decide +kernel
theorem dX12_find_83 : decode cX12_find 83 = .ok (.if_icmp .eq 23, 3) := by decide +kernel
theorem dX12_find_86 : decode cX12_find 86 = .ok (.aload_n 0, 1) := by decide +kernel
theorem dX12_find_87 : decode cX12_find 87 = .ok (.getfield 106, 3) := by decide +kernel
theorem dX12_find_90 : decode cX12_find 90 = .ok (.sipush 900, 3) := by decide +kernel
theorem dX12_find_93 : decode cX12_find 93 = .ok (.iload 7, 2) := by decide +kernel
theorem dX12_find_95 : decode cX12_find 95 = .ok (.imul, 1) := by decide +kernel
theorem dX12_find_96 : decode cX12_find 96 = .ok (.laload, 1) := by decide +kernel
theorem dX12_find_97 : decode cX12_find 97 = .ok (.lload_n 2, 1) := by decide +kernel
theorem dX12_find_98 : decode cX12_find 98 = .ok (.lcmp, 1) := by decide +kernel
theorem dX12_find_99 : decode cX12_find 99 = .ok (.ifCond .ne 7, 3) := by decide +kernel
theorem dX12_find_102 : decode cX12_find 102 = .ok (.iconst 1, 1) := by decide +kernel
theorem dX12_find_103 : decode cX12_find 103 = .ok (.goto 4, 3) := by decide +kernel
theorem dX12_find_106 : decode cX12_find 106 = .ok (.iconst 0, 1) := by decide +kernel
theorem dX12_find_107 : decode cX12_find 107 = .ok (.ior, 1) := by decide +kernel
theorem dX12_find_108 : decode cX12_find 108 = .ok (.istore 5, 2) := by decide +kernel
theorem dX12_find_110 : decode cX12_find 110 = .ok (.iinc 6 1, 3) := by decide +kernel
theorem dX12_find_113 : decode cX12_find 113 = .ok (.goto (-85), 3) := by decide +kernel
theorem dX12_find_116 : decode cX12_find 116 = .ok (.iload 5, 2) := by decide +kernel
theorem dX12_find_118 : decode cX12_find 118 = .ok (.ifCond .eq 21, 3) := by decide +kernel
theorem dX12_find_121 : decode cX12_find 121 = .ok (.aload_n 0, 1) := by decide +kernel
theorem dX12_find_122 : decode cX12_find 122 = .ok (.aload_n 0, 1) := by decide +kernel
theorem dX12_find_123 : decode cX12_find 123 = .ok (.getfield 75, 3) := by decide +kernel
theorem dX12_find_126 : decode cX12_find 126 = .ok (.iload 4, 2) := by decide +kernel
theorem dX12_find_128 : decode cX12_find 128 = .ok (.iaload, 1) := by decide +kernel
theorem dX12_find_129 : decode cX12_find 129 = .ok (.iload_n 1, 1) := by decide +kernel
theorem dX12_find_130 : decode cX12_find 130 = .ok (.invokevirtual 162, 3) := by decide +kernel
theorem dX12_find_133 : decode cX12_find 133 = .ok (.ifCond .eq 6, 3) := by decide +kernel
theorem dX12_find_136 : decode cX12_find 136 = .ok (.iload 4, 2) := by decide +kernel
theorem dX12_find_138 : decode cX12_find 138 = .ok (.ireturn, 1) := by decide +kernel
theorem dX12_find_139 : decode cX12_find 139 = .ok (.iinc 4 1, 3) := by decide +kernel
theorem dX12_find_142 : decode cX12_find 142 = .ok (.goto (-129), 3) := by decide +kernel
theorem dX12_find_145 : decode cX12_find 145 = .ok (.bipush (-9), 2) := by decide +kernel
theorem dX12_find_147 : decode cX12_find 147 = .ok (.ireturn, 1) := by decide +kernel
def fn_X12_find_b139 (rc13 : mz_H → (Option Nat) → Int32 → Int64 → Int32 → mz_Res Int32) (h : mz_H) (a0 : (Option Nat)) (x1 : Int32) (j2 : Int64) (x4 : Int32) : mz_Res Int32 :=
  mz_op (some (x4 + 1)) fun v1 =>
  rc13 h a0 x1 j2 v1
set_option maxHeartbeats 4000000 in
set_option maxRecDepth 100000 in
theorem pf_X12_find_b139 (r : Int32) (Y : mz_Y p g RX12 cX12_find 8 (some .int) "find" (mz_AF h0) s m args meth c) {rc13 : mz_H → (Option Nat) → Int32 → Int64 → Int32 → mz_Res Int32} (hrc13 : ∀ (h : mz_H) (a0 : (Option Nat)) (x1 : Int32) (j2 : Int64) (x4 : Int32) (dc ds : Nat), rc13 h a0 x1 j2 x4 = some (r, hf, dc, ds) → mz_Go l g p e s m args below meth c 3 71 DC DS h0 (some (Value.int r)) hf 8 13 [(0, false, va_rf a0), (1, false, .int x1), (2, true, .long j2), (4, false, .int x4)] [] h dc ds) (h : mz_H) (a0 : (Option Nat)) (x1 : Int32) (j2 : Int64) (x4 : Int32) (dc ds : Nat) (hr : fn_X12_find_b139 rc13 h a0 x1 j2 x4 = some (r, hf, dc, ds)) : mz_Go l g p e s m args below meth c 3 71 DC DS h0 (some (Value.int r)) hf 8 139 [(0, false, va_rf a0), (1, false, .int x1), (2, true, .long j2), (4, false, .int x4)] [] h dc ds := by
  unfold fn_X12_find_b139 at hr
  intro H locs cells slots ls hH hS hl hc hs
  have X := Y.1
  obtain ⟨v1, hv1, hr⟩ := mz_op_some hr
  have hv1 := Option.some.inj hv1
  refine mz_iinc (k := 3) X [(4, false, .int v1), (0, false, va_rf a0), (1, false, .int x1), (2, true, .long j2)] v1 dX12_find_139 hl rfl hv1 (by decide) rfl (fun ls hl => ?_)
  refine lv_goto (tgt := 13) X.1 X.2.1 dX12_find_142 (by decide) ?_
  exact hrc13 h a0 x1 j2 v1 _ _ hr H locs cells slots ls hH hS (mz_sub hl [1, 2, 3, 0] rfl) hc hs
def fn_X12_find_b107 (rc13 : mz_H → (Option Nat) → Int32 → Int64 → Int32 → mz_Res Int32) (rc28 : mz_H → (Option Nat) → Int32 → Int64 → Int32 → Int32 → Int32 → mz_Res Int32) (h : mz_H) (a0 : (Option Nat)) (x1 : Int32) (j2 : Int64) (x4 : Int32) (x6 : Int32) (s0 : Int32) (s1 : Int32) : mz_Res Int32 :=
  mz_op (some (s0 ||| s1)) fun v1 =>
  mz_op (some (x6 + 1)) fun v2 =>
  rc28 h a0 x1 j2 x4 v1 v2
set_option maxHeartbeats 4000000 in
set_option maxRecDepth 100000 in
theorem pf_X12_find_b107 (r : Int32) (Y : mz_Y p g RX12 cX12_find 8 (some .int) "find" (mz_AF h0) s m args meth c) {rc13 : mz_H → (Option Nat) → Int32 → Int64 → Int32 → mz_Res Int32} (hrc13 : ∀ (h : mz_H) (a0 : (Option Nat)) (x1 : Int32) (j2 : Int64) (x4 : Int32) (dc ds : Nat), rc13 h a0 x1 j2 x4 = some (r, hf, dc, ds) → mz_Go l g p e s m args below meth c 3 71 DC DS h0 (some (Value.int r)) hf 8 13 [(0, false, va_rf a0), (1, false, .int x1), (2, true, .long j2), (4, false, .int x4)] [] h dc ds) {rc28 : mz_H → (Option Nat) → Int32 → Int64 → Int32 → Int32 → Int32 → mz_Res Int32} (hrc28 : ∀ (h : mz_H) (a0 : (Option Nat)) (x1 : Int32) (j2 : Int64) (x4 : Int32) (x5 : Int32) (x6 : Int32) (dc ds : Nat), rc28 h a0 x1 j2 x4 x5 x6 = some (r, hf, dc, ds) → mz_Go l g p e s m args below meth c 3 71 DC DS h0 (some (Value.int r)) hf 8 28 [(0, false, va_rf a0), (1, false, .int x1), (2, true, .long j2), (4, false, .int x4), (5, false, .int x5), (6, false, .int x6)] [] h dc ds) (h : mz_H) (a0 : (Option Nat)) (x1 : Int32) (j2 : Int64) (x4 : Int32) (x6 : Int32) (s0 : Int32) (s1 : Int32) (dc ds : Nat) (hr : fn_X12_find_b107 rc13 rc28 h a0 x1 j2 x4 x6 s0 s1 = some (r, hf, dc, ds)) : mz_Go l g p e s m args below meth c 3 71 DC DS h0 (some (Value.int r)) hf 8 107 [(0, false, va_rf a0), (1, false, .int x1), (2, true, .long j2), (4, false, .int x4), (6, false, .int x6)] [.int s1, .int s0] h dc ds := by
  unfold fn_X12_find_b107 at hr
  intro H locs cells slots ls hH hS hl hc hs
  have X := Y.1
  refine lv_ior X.1 X.2.1 dX12_find_107 ?_
  refine mz_topi hr (fun v1 hv1 hr => ?_)
  refine mz_istore X [(5, false, .int v1), (0, false, va_rf a0), (1, false, .int x1), (2, true, .long j2), (4, false, .int x4), (6, false, .int x6)] dX12_find_108 hl (by decide) rfl (fun ls hl => ?_)
  obtain ⟨v2, hv2, hr⟩ := mz_op_some hr
  have hv2 := Option.some.inj hv2
  refine mz_iinc (k := 5) X [(6, false, .int v2), (5, false, .int v1), (0, false, va_rf a0), (1, false, .int x1), (2, true, .long j2), (4, false, .int x4)] v2 dX12_find_110 hl rfl hv2 (by decide) rfl (fun ls hl => ?_)
  refine lv_goto (tgt := 28) X.1 X.2.1 dX12_find_113 (by decide) ?_
  exact hrc28 h a0 x1 j2 x4 v1 v2 _ _ hr H locs cells slots ls hH hS (mz_sub hl [2, 3, 4, 5, 1, 0] rfl) hc hs
def fn_X12_find_b106 (rc13 : mz_H → (Option Nat) → Int32 → Int64 → Int32 → mz_Res Int32) (rc28 : mz_H → (Option Nat) → Int32 → Int64 → Int32 → Int32 → Int32 → mz_Res Int32) (h : mz_H) (a0 : (Option Nat)) (x1 : Int32) (j2 : Int64) (x4 : Int32) (x6 : Int32) (s0 : Int32) : mz_Res Int32 :=
  fn_X12_find_b107 rc13 rc28 h a0 x1 j2 x4 x6 s0 0
set_option maxHeartbeats 4000000 in
set_option maxRecDepth 100000 in
theorem pf_X12_find_b106 (r : Int32) (Y : mz_Y p g RX12 cX12_find 8 (some .int) "find" (mz_AF h0) s m args meth c) {rc13 : mz_H → (Option Nat) → Int32 → Int64 → Int32 → mz_Res Int32} (hrc13 : ∀ (h : mz_H) (a0 : (Option Nat)) (x1 : Int32) (j2 : Int64) (x4 : Int32) (dc ds : Nat), rc13 h a0 x1 j2 x4 = some (r, hf, dc, ds) → mz_Go l g p e s m args below meth c 3 71 DC DS h0 (some (Value.int r)) hf 8 13 [(0, false, va_rf a0), (1, false, .int x1), (2, true, .long j2), (4, false, .int x4)] [] h dc ds) {rc28 : mz_H → (Option Nat) → Int32 → Int64 → Int32 → Int32 → Int32 → mz_Res Int32} (hrc28 : ∀ (h : mz_H) (a0 : (Option Nat)) (x1 : Int32) (j2 : Int64) (x4 : Int32) (x5 : Int32) (x6 : Int32) (dc ds : Nat), rc28 h a0 x1 j2 x4 x5 x6 = some (r, hf, dc, ds) → mz_Go l g p e s m args below meth c 3 71 DC DS h0 (some (Value.int r)) hf 8 28 [(0, false, va_rf a0), (1, false, .int x1), (2, true, .long j2), (4, false, .int x4), (5, false, .int x5), (6, false, .int x6)] [] h dc ds) (h : mz_H) (a0 : (Option Nat)) (x1 : Int32) (j2 : Int64) (x4 : Int32) (x6 : Int32) (s0 : Int32) (dc ds : Nat) (hr : fn_X12_find_b106 rc13 rc28 h a0 x1 j2 x4 x6 s0 = some (r, hf, dc, ds)) : mz_Go l g p e s m args below meth c 3 71 DC DS h0 (some (Value.int r)) hf 8 106 [(0, false, va_rf a0), (1, false, .int x1), (2, true, .long j2), (4, false, .int x4), (6, false, .int x6)] [.int s0] h dc ds := by
  unfold fn_X12_find_b106 at hr
  intro H locs cells slots ls hH hS hl hc hs
  have X := Y.1
  refine lv_iconst (v := 0) X.1 X.2.1 dX12_find_106 (by decide) ?_
  exact pf_X12_find_b107 r Y hrc13 hrc28 h a0 x1 j2 x4 x6 s0 0 _ _ hr H locs cells slots ls hH hS (mz_sub hl [0, 1, 2, 3, 4] rfl) hc hs
def fn_X12_find_b28 (rc13 : mz_H → (Option Nat) → Int32 → Int64 → Int32 → mz_Res Int32) : Nat → mz_H → (Option Nat) → Int32 → Int64 → Int32 → Int32 → Int32 → mz_Res Int32
  | 0, _, _, _, _, _, _, _ => none
  | n + 1, h, a0, x1, j2, x4, x5, x6 =>
    mz_op (mz_fR h a0 11 34) fun v1 =>
    mz_op (mz_aI h v1 0 x4) fun v2 =>
    if v2 ≤ x6 then
      if x5 = 0 then
        fn_X12_find_b139 rc13 h a0 x1 j2 x4
      else
        mz_op (mz_fR h a0 11 33) fun v3 =>
        mz_op (mz_aI h v3 0 x4) fun v4 =>
        mz_chk (mz_is h a0 11) <| mz_call (fn_X12_isBelow h a0 v4 x1) fun v5 h =>
        if v5 = 0 then
          fn_X12_find_b139 rc13 h a0 x1 j2 x4
        else
          mz_ret x4 h
    else
      mz_op (some ((16 * x4) + x6)) fun v6 =>
      mz_op (mz_fR h a0 11 38) fun v7 =>
      mz_op (mz_aI h v7 0 v6) fun v8 =>
      if (v8 &&& 4) = 0 then
        fn_X12_find_b106 rc13 (fn_X12_find_b28 rc13 n) h a0 x1 j2 x4 x6 x5
      else
        mz_op (mz_fR h a0 11 37) fun v9 =>
        mz_op (mz_aI h v9 0 v6) fun v10 =>
        if v10 = 0 then
          mz_op (mz_fR h a0 11 36) fun v11 =>
          mz_op (mz_aI h v11 0 v6) fun v12 =>
          if v12 = 8 then
            fn_X12_find_b106 rc13 (fn_X12_find_b28 rc13 n) h a0 x1 j2 x4 x6 x5
          else
            mz_op (mz_fR h a0 11 43) fun v13 =>
            mz_op (mz_aJ h v13 (900 * v6)) fun v14 =>
            if (lg_cmp v14 j2) = 0 then
              fn_X12_find_b107 rc13 (fn_X12_find_b28 rc13 n) h a0 x1 j2 x4 x6 x5 1
            else
              fn_X12_find_b106 rc13 (fn_X12_find_b28 rc13 n) h a0 x1 j2 x4 x6 x5
        else
          fn_X12_find_b106 rc13 (fn_X12_find_b28 rc13 n) h a0 x1 j2 x4 x6 x5
set_option maxHeartbeats 4000000 in
set_option maxRecDepth 100000 in
theorem pf_X12_find_b28 (r : Int32) (Y : mz_Y p g RX12 cX12_find 8 (some .int) "find" (mz_AF h0) s m args meth c) {rc13 : mz_H → (Option Nat) → Int32 → Int64 → Int32 → mz_Res Int32} (hrc13 : ∀ (h : mz_H) (a0 : (Option Nat)) (x1 : Int32) (j2 : Int64) (x4 : Int32) (dc ds : Nat), rc13 h a0 x1 j2 x4 = some (r, hf, dc, ds) → mz_Go l g p e s m args below meth c 3 71 DC DS h0 (some (Value.int r)) hf 8 13 [(0, false, va_rf a0), (1, false, .int x1), (2, true, .long j2), (4, false, .int x4)] [] h dc ds) : ∀ (n : Nat) (h : mz_H) (a0 : (Option Nat)) (x1 : Int32) (j2 : Int64) (x4 : Int32) (x5 : Int32) (x6 : Int32) (dc ds : Nat), fn_X12_find_b28 rc13 n h a0 x1 j2 x4 x5 x6 = some (r, hf, dc, ds) → mz_Go l g p e s m args below meth c 3 71 DC DS h0 (some (Value.int r)) hf 8 28 [(0, false, va_rf a0), (1, false, .int x1), (2, true, .long j2), (4, false, .int x4), (5, false, .int x5), (6, false, .int x6)] [] h dc ds := by
  have X := Y.1
  intro n
  induction n with
  | zero => intro h a0 x1 j2 x4 x5 x6 dc ds hr; simp [fn_X12_find_b28] at hr
  | succ n ih =>
    intro h a0 x1 j2 x4 x5 x6 dc ds hr
    rw [fn_X12_find_b28] at hr
    intro H locs cells slots ls hH hS hl hc hs
    refine lv_iload X.1 X.2.1 dX12_find_28 (mz_at hl 5 rfl) ?_
    refine mz_aload_n X dX12_find_30 rfl (mz_at hl 0 rfl) ?_
    refine mz_getR X hH fl_RX12_78 dX12_find_31 hr (fun v1 hr => ?_)
    refine lv_iload X.1 X.2.1 dX12_find_34 (mz_at hl 3 rfl) ?_
    refine mz_iald X hH dX12_find_36 hr (fun v2 hr => ?_)
    refine mz_icmp_ge X 116 dX12_find_37 (by decide) hr (fun hr => ?_) (fun hr => ?_)
    · refine lv_iload X.1 X.2.1 dX12_find_116 (mz_at hl 4 rfl) ?_
      refine mz_if_eq X 139 dX12_find_118 (by decide) hr (fun hr => ?_) (fun hr => ?_)
      · exact pf_X12_find_b139 r Y hrc13 h a0 x1 j2 x4 _ _ hr H locs cells slots ls hH hS (mz_sub hl [0, 1, 2, 3] rfl) hc hs
      · refine mz_aload_n X dX12_find_121 rfl (mz_at hl 0 rfl) ?_
        refine mz_aload_n X dX12_find_122 rfl (mz_at hl 0 rfl) ?_
        refine mz_getR X hH fl_RX12_75 dX12_find_123 hr (fun v3 hr => ?_)
        refine lv_iload X.1 X.2.1 dX12_find_126 (mz_at hl 3 rfl) ?_
        refine mz_iald X hH dX12_find_128 hr (fun v4 hr => ?_)
        refine lv_iload_n X.1 X.2.1 dX12_find_129 rfl (mz_at hl 1 rfl) ?_
        refine mz_kV Value.int X hH hS hl.1.1 [.int v4, .int x1] [] hr (ct_X12_isBelow l g h a0 v4 x1) mb_RX12_162 rfl im_X12_isBelow rfl (Nat.le_of_ble_eq_true rfl) ⟨Nat.le_of_ble_eq_true rfl, Nat.le_of_ble_eq_true rfl⟩ hc hs dX12_find_130 rfl (fun v5 h H locs cells slots dc ds hr hH hS hc hs => ?_)
        refine mz_if_eq X 139 dX12_find_133 (by decide) hr (fun hr => ?_) (fun hr => ?_)
        · exact pf_X12_find_b139 r Y hrc13 h a0 x1 j2 x4 _ _ hr H locs cells slots ls hH hS (mz_sub hl [0, 1, 2, 3] rfl) hc hs
        · refine lv_iload X.1 X.2.1 dX12_find_136 (mz_at hl 3 rfl) ?_
          exact mz_iret Y dX12_find_138 hH hS hc hs hr
    · refine lv_bipush (v := 16) X.1 X.2.1 dX12_find_40 (by decide) ?_
      refine lv_iload X.1 X.2.1 dX12_find_42 (mz_at hl 3 rfl) ?_
      refine lv_imul X.1 X.2.1 dX12_find_44 ?_
      refine lv_iload X.1 X.2.1 dX12_find_45 (mz_at hl 5 rfl) ?_
      refine lv_iadd X.1 X.2.1 dX12_find_47 ?_
      refine mz_topi hr (fun v6 hv6 hr => ?_)
      refine mz_istore X [(7, false, .int v6), (0, false, va_rf a0), (1, false, .int x1), (2, true, .long j2), (4, false, .int x4), (5, false, .int x5), (6, false, .int x6)] dX12_find_48 hl (by decide) rfl (fun ls hl => ?_)
      refine lv_iload X.1 X.2.1 dX12_find_50 (mz_at hl 5 rfl) ?_
      refine mz_aload_n X dX12_find_52 rfl (mz_at hl 1 rfl) ?_
      refine mz_getR X hH fl_RX12_90 dX12_find_53 hr (fun v7 hr => ?_)
      refine lv_iload X.1 X.2.1 dX12_find_56 (mz_at hl 0 rfl) ?_
      refine mz_iald X hH dX12_find_58 hr (fun v8 hr => ?_)
      refine lv_iconst (v := 4) X.1 X.2.1 dX12_find_59 (by decide) ?_
      refine lv_iand X.1 X.2.1 dX12_find_60 ?_
      refine mz_if_eq X 106 dX12_find_61 (by decide) hr (fun hr => ?_) (fun hr => ?_)
      · exact pf_X12_find_b106 r Y hrc13 ih h a0 x1 j2 x4 x6 x5 _ _ hr H locs cells slots ls hH hS (mz_sub hl [1, 2, 3, 4, 6] rfl) hc hs
      · refine mz_aload_n X dX12_find_64 rfl (mz_at hl 1 rfl) ?_
        refine mz_getR X hH fl_RX12_87 dX12_find_65 hr (fun v9 hr => ?_)
        refine lv_iload X.1 X.2.1 dX12_find_68 (mz_at hl 0 rfl) ?_
        refine mz_iald X hH dX12_find_70 hr (fun v10 hr => ?_)
        refine mz_if_ne X 106 dX12_find_71 (by decide) hr (fun hr => ?_) (fun hr => ?_)
        · exact pf_X12_find_b106 r Y hrc13 ih h a0 x1 j2 x4 x6 x5 _ _ hr H locs cells slots ls hH hS (mz_sub hl [1, 2, 3, 4, 6] rfl) hc hs
        · refine mz_aload_n X dX12_find_74 rfl (mz_at hl 1 rfl) ?_
          refine mz_getR X hH fl_RX12_84 dX12_find_75 hr (fun v11 hr => ?_)
          refine lv_iload X.1 X.2.1 dX12_find_78 (mz_at hl 0 rfl) ?_
          refine mz_iald X hH dX12_find_80 hr (fun v12 hr => ?_)
          refine lv_bipush (v := 8) X.1 X.2.1 dX12_find_81 (by decide) ?_
          refine mz_icmp_eq X 106 dX12_find_83 (by decide) hr (fun hr => ?_) (fun hr => ?_)
          · exact pf_X12_find_b106 r Y hrc13 ih h a0 x1 j2 x4 x6 x5 _ _ hr H locs cells slots ls hH hS (mz_sub hl [1, 2, 3, 4, 6] rfl) hc hs
          · refine mz_aload_n X dX12_find_86 rfl (mz_at hl 1 rfl) ?_
            refine mz_getR X hH fl_RX12_106 dX12_find_87 hr (fun v13 hr => ?_)
            refine lv_sipush (v := 900) X.1 X.2.1 dX12_find_90 (by decide) ?_
            refine lv_iload X.1 X.2.1 dX12_find_93 (mz_at hl 0 rfl) ?_
            refine lv_imul X.1 X.2.1 dX12_find_95 ?_
            refine mz_lald X hH dX12_find_96 hr (fun v14 hr => ?_)
            refine lv_lload_n X.1 X.2.1 dX12_find_97 rfl (mz_at hl 3 rfl) ?_
            refine W.lcmp X.1 X.2.1 dX12_find_98 ?_
            refine mz_if_ne X 106 dX12_find_99 (by decide) hr (fun hr => ?_) (fun hr => ?_)
            · exact pf_X12_find_b106 r Y hrc13 ih h a0 x1 j2 x4 x6 x5 _ _ hr H locs cells slots ls hH hS (mz_sub hl [1, 2, 3, 4, 6] rfl) hc hs
            · refine lv_iconst (v := 1) X.1 X.2.1 dX12_find_102 (by decide) ?_
              refine lv_goto (tgt := 107) X.1 X.2.1 dX12_find_103 (by decide) ?_
              exact pf_X12_find_b107 r Y hrc13 ih h a0 x1 j2 x4 x6 x5 1 _ _ hr H locs cells slots ls hH hS (mz_sub hl [1, 2, 3, 4, 6] rfl) hc hs
def fn_X12_find_b13 : Nat → mz_H → (Option Nat) → Int32 → Int64 → Int32 → mz_Res Int32
  | 0, _, _, _, _, _ => none
  | n + 1, h, a0, x1, j2, x4 =>
    mz_op (mz_fI h a0 11 32) fun v1 =>
    if v1 ≤ x4 then
      mz_ret (-9) h
    else
      fn_X12_find_b28 (fn_X12_find_b13 n) 1001 h a0 x1 j2 x4 0 0
set_option maxHeartbeats 4000000 in
set_option maxRecDepth 100000 in
theorem pf_X12_find_b13 (r : Int32) (Y : mz_Y p g RX12 cX12_find 8 (some .int) "find" (mz_AF h0) s m args meth c) : ∀ (n : Nat) (h : mz_H) (a0 : (Option Nat)) (x1 : Int32) (j2 : Int64) (x4 : Int32) (dc ds : Nat), fn_X12_find_b13 n h a0 x1 j2 x4 = some (r, hf, dc, ds) → mz_Go l g p e s m args below meth c 3 71 DC DS h0 (some (Value.int r)) hf 8 13 [(0, false, va_rf a0), (1, false, .int x1), (2, true, .long j2), (4, false, .int x4)] [] h dc ds := by
  have X := Y.1
  intro n
  induction n with
  | zero => intro h a0 x1 j2 x4 dc ds hr; simp [fn_X12_find_b13] at hr
  | succ n ih =>
    intro h a0 x1 j2 x4 dc ds hr
    rw [fn_X12_find_b13] at hr
    intro H locs cells slots ls hH hS hl hc hs
    refine lv_iload X.1 X.2.1 dX12_find_13 (mz_at hl 3 rfl) ?_
    refine mz_aload_n X dX12_find_15 rfl (mz_at hl 0 rfl) ?_
    refine mz_getI X hH fl_RX12_211 dX12_find_16 hr (fun v1 hr => ?_)
    refine mz_icmp_ge X 145 dX12_find_19 (by decide) hr (fun hr => ?_) (fun hr => ?_)
    · refine lv_bipush (v := (-9)) X.1 X.2.1 dX12_find_145 (by decide) ?_
      exact mz_iret Y dX12_find_147 hH hS hc hs hr
    · refine lv_iconst (v := 0) X.1 X.2.1 dX12_find_22 (by decide) ?_
      refine mz_istore X [(5, false, .int 0), (0, false, va_rf a0), (1, false, .int x1), (2, true, .long j2), (4, false, .int x4)] dX12_find_23 hl (by decide) rfl (fun ls hl => ?_)
      refine lv_iconst (v := 0) X.1 X.2.1 dX12_find_25 (by decide) ?_
      refine mz_istore X [(6, false, .int 0), (5, false, .int 0), (0, false, va_rf a0), (1, false, .int x1), (2, true, .long j2), (4, false, .int x4)] dX12_find_26 hl (by decide) rfl (fun ls hl => ?_)
      exact pf_X12_find_b28 r Y ih 1001 h a0 x1 j2 x4 0 0 _ _ hr H locs cells slots ls hH hS (mz_sub hl [2, 3, 4, 5, 1, 0] rfl) hc hs
def fn_X12_find (h : mz_H) (a0 : (Option Nat)) (x1 : Int32) (j2 : Int64) : mz_Res Int32 :=
  mz_chk (mz_is h a0 11) <| mz_call (fn_X12_isClass h a0 x1) fun v1 h =>
  if v1 = 0 then
    mz_ret (-1) h
  else
    fn_X12_find_b13 1001 h a0 x1 j2 0
set_option maxHeartbeats 4000000 in
set_option maxRecDepth 100000 in
theorem pf_X12_find_b0 (r : Int32) (Y : mz_Y p g RX12 cX12_find 8 (some .int) "find" (mz_AF h0) s m args meth c) (h : mz_H) (a0 : (Option Nat)) (x1 : Int32) (j2 : Int64) (dc ds : Nat) (hr : fn_X12_find h a0 x1 j2 = some (r, hf, dc, ds)) : mz_Go l g p e s m args below meth c 3 71 DC DS h0 (some (Value.int r)) hf 8 0 [(0, false, va_rf a0), (1, false, .int x1), (2, true, .long j2)] [] h dc ds := by
  unfold fn_X12_find at hr
  intro H locs cells slots ls hH hS hl hc hs
  have X := Y.1
  refine mz_aload_n X dX12_find_0 rfl (mz_at hl 0 rfl) ?_
  refine lv_iload_n X.1 X.2.1 dX12_find_1 rfl (mz_at hl 1 rfl) ?_
  refine mz_kV Value.int X hH hS hl.1.1 [.int x1] [] hr (ct_X12_isClass l g h a0 x1) mb_RX12_138 rfl im_X12_isClass rfl (Nat.le_of_ble_eq_true rfl) ⟨Nat.le_of_ble_eq_true rfl, Nat.le_of_ble_eq_true rfl⟩ hc hs dX12_find_2 rfl (fun v1 h H locs cells slots dc ds hr hH hS hc hs => ?_)
  refine mz_if_ne X 10 dX12_find_5 (by decide) hr (fun hr => ?_) (fun hr => ?_)
  · refine lv_iconst (v := 0) X.1 X.2.1 dX12_find_10 (by decide) ?_
    refine mz_istore X [(4, false, .int 0), (0, false, va_rf a0), (1, false, .int x1), (2, true, .long j2)] dX12_find_11 hl (by decide) rfl (fun ls hl => ?_)
    exact pf_X12_find_b13 r Y 1001 h a0 x1 j2 0 _ _ hr H locs cells slots ls hH hS (mz_sub hl [1, 2, 3, 0] rfl) hc hs
  · refine lv_iconst (v := (-1)) X.1 X.2.1 dX12_find_8 (by decide) ?_
    exact mz_iret Y dX12_find_9 hH hS hc hs hr
set_option maxRecDepth 100000 in
theorem ct_X12_find (l : Launch) (g : mz_G) (h : mz_H) (a0 : (Option Nat)) (x1 : Int32) (j2 : Int64) (r : Int32) (hf : mz_H) (k n : Nat) (hr : fn_X12_find h a0 x1 j2 = some (r, hf, k, n)) : mz_C l g yX12_find cX12_find 8 (some .int) 3 71 [va_rf a0, .int x1, .long j2] h (some (Value.int r)) hf k n := by
  refine mz_met (as := [(false, va_rf a0), (false, .int x1), (true, .long j2)]) (plainFor_of_name (by decide)) (mz_c1 (mz_cat_rf _) (mz_c1 rfl (mz_c1 rfl mz_c0))) (Nat.le_of_ble_eq_true rfl) ?_
  intro p e s m args below meth c Y
  exact pf_X12_find_b0 r Y h a0 x1 j2 _ _ hr
theorem dX12_column_0 : decode cX12_column 0 = .ok (.aload_n 0, 1) := by decide +kernel
theorem dX12_column_1 : decode cX12_column 1 = .ok (.iconst 0, 1) := by decide +kernel
theorem dX12_column_2 : decode cX12_column 2 = .ok (.putfield 125, 3) := by decide +kernel
theorem dX12_column_5 : decode cX12_column 5 = .ok (.aload_n 0, 1) := by decide +kernel
theorem dX12_column_6 : decode cX12_column 6 = .ok (.iload_n 1, 1) := by decide +kernel
theorem dX12_column_7 : decode cX12_column 7 = .ok (.invokevirtual 138, 3) := by decide +kernel
theorem dX12_column_10 : decode cX12_column 10 = .ok (.ifCond .ne 5, 3) := by decide +kernel
theorem dX12_column_13 : decode cX12_column 13 = .ok (.iconst (-1), 1) := by decide +kernel
theorem dX12_column_14 : decode cX12_column 14 = .ok (.ireturn, 1) := by decide +kernel
theorem dX12_column_15 : decode cX12_column 15 = .ok (.iload_n 2, 1) := by decide +kernel
theorem dX12_column_16 : decode cX12_column 16 = .ok (.iconst 0, 1) := by decide +kernel
theorem dX12_column_17 : decode cX12_column 17 = .ok (.bipush 30, 2) := by decide +kernel
theorem dX12_column_19 : decode cX12_column 19 = .ok (.invokestatic 142, 3) := by decide +kernel
theorem dX12_column_22 : decode cX12_column 22 = .ok (.ifCond .eq 13, 3) := by decide +kernel
theorem dX12_column_25 : decode cX12_column 25 = .ok (.iload_n 3, 1) := by decide +kernel
theorem dX12_column_26 : decode cX12_column 26 = .ok (.iconst 0, 1) := by decide +kernel
theorem dX12_column_27 : decode cX12_column 27 = .ok (.bipush 7, 2) := by decide +kernel
theorem dX12_column_29 : decode cX12_column 29 = .ok (.invokestatic 142, 3) := by decide +kernel
theorem dX12_column_32 : decode cX12_column 32 = .ok (.ifCond .ne 6, 3) := by decide +kernel
theorem dX12_column_35 : decode cX12_column 35 = .ok (.bipush (-2), 2) := by decide +kernel
theorem dX12_column_37 : decode cX12_column 37 = .ok (.ireturn, 1) := by decide +kernel
theorem dX12_column_38 : decode cX12_column 38 = .ok (.iconst 0, 1) := by decide +kernel
theorem dX12_column_39 : decode cX12_column 39 = .ok (.istore 4, 2) := by decide +kernel
theorem dX12_column_41 : decode cX12_column 41 = .ok (.iconst 0, 1) := by decide +kernel
theorem dX12_column_42 : decode cX12_column 42 = .ok (.istore 5, 2) := by decide +kernel
theorem dX12_column_44 : decode cX12_column 44 = .ok (.iload 5, 2) := by decide +kernel
theorem dX12_column_46 : decode cX12_column 46 = .ok (.aload_n 0, 1) := by decide +kernel
theorem dX12_column_47 : decode cX12_column 47 = .ok (.getfield 211, 3) := by decide +kernel
theorem dX12_column_50 : decode cX12_column 50 = .ok (.if_icmp .ge 128, 3) := by decide +kernel
theorem dX12_column_53 : decode cX12_column 53 = .ok (.aload_n 0, 1) := by decide +kernel
theorem dX12_column_54 : decode cX12_column 54 = .ok (.iload 5, 2) := by decide +kernel
theorem dX12_column_56 : decode cX12_column 56 = .ok (.iload_n 2, 1) := by decide +kernel
theorem dX12_column_57 : decode cX12_column 57 = .ok (.invokevirtual 223, 3) := by decide +kernel
theorem dX12_column_60 : decode cX12_column 60 = .ok (.istore 6, 2) := by decide +kernel
theorem dX12_column_62 : decode cX12_column 62 = .ok (.bipush 16, 2) := by decide +kernel
theorem dX12_column_64 : decode cX12_column 64 = .ok (.iload 5, 2) := by decide +kernel
theorem dX12_column_66 : decode cX12_column 66 = .ok (.imul, 1) := by decide +kernel
theorem dX12_column_67 : decode cX12_column 67 = .ok (.iload 6, 2) := by decide +kernel
theorem dX12_column_69 : decode cX12_column 69 = .ok (.iadd, 1) := by decide +kernel
theorem dX12_column_70 : decode cX12_column 70 = .ok (.istore 7, 2) := by decide +kernel
theorem dX12_column_72 : decode cX12_column 72 = .ok (.iload 6, 2) := by decide +kernel
theorem dX12_column_74 : decode cX12_column 74 = .ok (.bipush (-9), 2) := by decide +kernel
theorem dX12_column_76 : decode cX12_column 76 = .ok (.if_icmp .eq 96, 3) := by decide +kernel
theorem dX12_column_79 : decode cX12_column 79 = .ok (.aload_n 0, 1) := by decide +kernel
theorem dX12_column_80 : decode cX12_column 80 = .ok (.getfield 87, 3) := by decide +kernel
theorem dX12_column_83 : decode cX12_column 83 = .ok (.iload 7, 2) := by decide +kernel
theorem dX12_column_85 : decode cX12_column 85 = .ok (.iaload, 1) := by decide +kernel
theorem dX12_column_86 : decode cX12_column 86 = .ok (.ifCond .ne 86, 3) := by decide +kernel
theorem dX12_column_89 : decode cX12_column 89 = .ok (.aload_n 0, 1) := by decide +kernel
theorem dX12_column_90 : decode cX12_column 90 = .ok (.getfield 84, 3) := by decide +kernel
theorem dX12_column_93 : decode cX12_column 93 = .ok (.iload 7, 2) := by decide +kernel
theorem dX12_column_95 : decode cX12_column 95 = .ok (.iaload, 1) := by decide +kernel
theorem dX12_column_96 : decode cX12_column 96 = .ok (.bipush 8, 2) := by decide +kernel
theorem dX12_column_98 : decode cX12_column 98 = .ok (.if_icmp .eq 74, 3) := by decide +kernel
theorem dX12_column_101 : decode cX12_column 101 = .ok (.aload_n 0, 1) := by decide +kernel
theorem dX12_column_102 : decode cX12_column 102 = .ok (.aload_n 0, 1) := by decide +kernel
theorem dX12_column_103 : decode cX12_column 103 = .ok (.getfield 75, 3) := by decide +kernel
theorem dX12_column_106 : decode cX12_column 106 = .ok (.iload 5, 2) := by decide +kernel
theorem dX12_column_108 : decode cX12_column 108 = .ok (.iaload, 1) := by decide +kernel
theorem dX12_column_109 : decode cX12_column 109 = .ok (.iload_n 1, 1) := by decide +kernel
theorem dX12_column_110 : decode cX12_column 110 = .ok (.invokevirtual 162, 3) := by decide +kernel
theorem dX12_column_113 : decode cX12_column 113 = .ok (.ifCond .ne 6, 3) := by decide +kernel
theorem dX12_column_116 : decode cX12_column 116 = .ok (.goto 56, 3) := by decide +kernel
theorem dX12_column_119 : decode cX12_column 119 = .ok (.aload_n 0, 1) := by decide +kernel
theorem dX12_column_120 : decode cX12_column 120 = .ok (.getfield 84, 3) := by decide +kernel
theorem dX12_column_123 : decode cX12_column 123 = .ok (.iload 7, 2) := by decide +kernel
theorem dX12_column_125 : decode cX12_column 125 = .ok (.iaload, 1) := by decide +kernel
theorem dX12_column_126 : decode cX12_column 126 = .ok (.iload_n 3, 1) := by decide +kernel
theorem dX12_column_127 : decode cX12_column 127 = .ok (.invokestatic 265, 3) := by decide +kernel
theorem dX12_column_130 : decode cX12_column 130 = .ok (.ifCond .ne 10, 3) := by decide +kernel
theorem dX12_column_133 : decode cX12_column 133 = .ok (.aload_n 0, 1) := by decide +kernel
theorem dX12_column_134 : decode cX12_column 134 = .ok (.bipush 7, 2) := by decide +kernel
theorem dX12_column_136 : decode cX12_column 136 = .ok (.invokevirtual 131, 3) := by decide +kernel
theorem dX12_column_139 : decode cX12_column 139 = .ok (.ireturn, 1) := by decide +kernel
theorem dX12_column_140 : decode cX12_column 140 = .ok (.aload_n 0, 1) := by decide +kernel
theorem dX12_column_141 : decode cX12_column 141 = .ok (.getfield 113, 3) := by decide +kernel
theorem dX12_column_144 : decode cX12_column 144 = .ok (.iload 4, 2) := by decide +kernel
theorem dX12_column_146 : decode cX12_column 146 = .ok (.aload_n 0, 1) := by decide +kernel
theorem dX12_column_147 : decode cX12_column 147 = .ok (.getfield 106, 3) := by decide +kernel
theorem dX12_column_150 : decode cX12_column 150 = .ok (.sipush 900, 3) := by decide +kernel
theorem dX12_column_153 : decode cX12_column 153 = .ok (.iload 7, 2) := by decide +kernel
theorem dX12_column_155 : decode cX12_column 155 = .ok (.imul, 1) := by decide +kernel
theorem dX12_column_156 : decode cX12_column 156 = .ok (.laload, 1) := by decide +kernel
theorem dX12_column_157 : decode cX12_column 157 = .ok (.aload_n 0, 1) := by decide +kernel
theorem dX12_column_158 : decode cX12_column 158 = .ok (.getfield 84, 3) := by decide +kernel
theorem dX12_column_161 : decode cX12_column 161 = .ok (.iload 7, 2) := by decide +kernel
theorem dX12_column_163 : decode cX12_column 163 = .ok (.iaload, 1) := by decide +kernel
theorem dX12_column_164 : decode cX12_column 164 = .ok (.iload_n 3, 1) := by decide +kernel
theorem dX12_column_165 : decode cX12_column 165 = .ok (.invokestatic 268, 3) := by decide +kernel
theorem dX12_column_168 : decode cX12_column 168 = .ok (.lastore, 1) := by decide +kernel
theorem dX12_column_169 : decode cX12_column 169 = .ok (.iinc 4 1, 3) := by decide +kernel
theorem dX12_column_172 : decode cX12_column 172 = .ok (.iinc 5 1, 3) := by decide +kernel
theorem dX12_column_175 : decode cX12_column 175 = .ok (.goto (-131), 3) := by decide +kernel
theorem dX12_column_178 : decode cX12_column 178 = .ok (.iconst 0, 1) := by decide +kernel
theorem dX12_column_179 : decode cX12_column 179 = .ok (.istore 5, 2) := by decide +kernel
theorem dX12_column_181 : decode cX12_column 181 = .ok (.iload 5, 2) := by decide +kernel
theorem dX12_column_183 : decode cX12_column 183 = .ok (.iload 4, 2) := by decide +kernel
theorem dX12_column_185 : decode cX12_column 185 = .ok (.if_icmp .ge 23, 3) := by decide +kernel
theorem dX12_column_188 : decode cX12_column 188 = .ok (.aload_n 0, 1) := by decide +kernel
theorem dX12_column_189 : decode cX12_column 189 = .ok (.getfield 110, 3) := by decide +kernel
theorem dX12_column_192 : decode cX12_column 192 = .ok (.iload 5, 2) := by decide +kernel
theorem dX12_column_194 : decode cX12_column 194 = .ok (.aload_n 0, 1) := by decide +kernel
theorem dX12_column_195 : decode cX12_column 195 = .ok (.getfield 113, 3) := by decide +kernel
theorem dX12_column_198 : decode cX12_column 198 = .ok (.iload 5, 2) := by decide +kernel
theorem dX12_column_200 : decode cX12_column 200 = .ok (.laload, 1) := by decide +kernel
theorem dX12_column_201 : decode cX12_column 201 = .ok (.lastore, 1) := by decide +kernel
theorem dX12_column_202 : decode cX12_column 202 = .ok (.iinc 5 1, 3) := by decide +kernel
theorem dX12_column_205 : decode cX12_column 205 = .ok (.goto (-24), 3) := by decide +kernel
theorem dX12_column_208 : decode cX12_column 208 = .ok (.aload_n 0, 1) := by decide +kernel
theorem dX12_column_209 : decode cX12_column 209 = .ok (.iconst 1, 1) := by decide +kernel
theorem dX12_column_210 : decode cX12_column 210 = .ok (.putfield 279, 3) := by decide +kernel
theorem dX12_column_213 : decode cX12_column 213 = .ok (.aload_n 0, 1) := by decide +kernel
theorem dX12_column_214 : decode cX12_column 214 = .ok (.iload_n 3, 1) := by decide +kernel
theorem dX12_column_215 : decode cX12_column 215 = .ok (.putfield 283, 3) := by decide +kernel
theorem dX12_column_218 : decode cX12_column 218 = .ok (.aload_n 0, 1) := by decide +kernel
theorem dX12_column_219 : decode cX12_column 219 = .ok (.iload 4, 2) := by decide +kernel
theorem dX12_column_221 : decode cX12_column 221 = .ok (.putfield 286, 3) := by decide +kernel
theorem dX12_column_224 : decode cX12_column 224 = .ok (.iload 4, 2) := by decide +kernel
theorem dX12_column_226 : decode cX12_column 226 = .ok (.ireturn, 1) := by decide +kernel
def fn_X12_column_b181 : Nat → mz_H → (Option Nat) → Int32 → Int32 → Int32 → mz_Res Int32
  | 0, _, _, _, _, _ => none
  | n + 1, h, a0, x3, x4, x5 =>
    if x4 ≤ x5 then
      mz_op (mz_pF h a0 11 44 (Value.int 1)) fun h =>
      mz_op (mz_pF h a0 11 45 (Value.int x3)) fun h =>
      mz_op (mz_pF h a0 11 46 (Value.int x4)) fun h =>
      mz_ret x4 h
    else
      mz_op (mz_fR h a0 11 47) fun v1 =>
      mz_op (mz_fR h a0 11 48) fun v2 =>
      mz_op (mz_aJ h v2 x5) fun v3 =>
      mz_op (mz_sJ h v1 x5 v3) fun h =>
      mz_op (some (x5 + 1)) fun v4 =>
      fn_X12_column_b181 n h a0 x3 x4 v4
set_option maxHeartbeats 4000000 in
set_option maxRecDepth 100000 in
theorem pf_X12_column_b181 (r : Int32) (Y : mz_Y p g RX12 cX12_column 8 (some .int) "column" (mz_AF h0) s m args meth c) : ∀ (n : Nat) (h : mz_H) (a0 : (Option Nat)) (x3 : Int32) (x4 : Int32) (x5 : Int32) (dc ds : Nat), fn_X12_column_b181 n h a0 x3 x4 x5 = some (r, hf, dc, ds) → mz_Go l g p e s m args below meth c 4 87 DC DS h0 (some (Value.int r)) hf 8 181 [(0, false, va_rf a0), (3, false, .int x3), (4, false, .int x4), (5, false, .int x5)] [] h dc ds := by
  have X := Y.1
  intro n
  induction n with
  | zero => intro h a0 x3 x4 x5 dc ds hr; simp [fn_X12_column_b181] at hr
  | succ n ih =>
    intro h a0 x3 x4 x5 dc ds hr
    rw [fn_X12_column_b181] at hr
    intro H locs cells slots ls hH hS hl hc hs
    refine lv_iload X.1 X.2.1 dX12_column_181 (mz_at hl 3 rfl) ?_
    refine lv_iload X.1 X.2.1 dX12_column_183 (mz_at hl 2 rfl) ?_
    refine mz_icmp_ge X 208 dX12_column_185 (by decide) hr (fun hr => ?_) (fun hr => ?_)
    · refine mz_aload_n X dX12_column_208 rfl (mz_at hl 0 rfl) ?_
      refine lv_iconst (v := 1) X.1 X.2.1 dX12_column_209 (by decide) ?_
      refine mz_put X hH hS fp_RX12_279 dX12_column_210 (by decide) (by decide) hr (fun h H locs hr hH hS => ?_)
      refine mz_aload_n X dX12_column_213 rfl (mz_at hl 0 rfl) ?_
      refine lv_iload_n X.1 X.2.1 dX12_column_214 rfl (mz_at hl 1 rfl) ?_
      refine mz_put X hH hS fp_RX12_283 dX12_column_215 rfl rfl hr (fun h H locs hr hH hS => ?_)
      refine mz_aload_n X dX12_column_218 rfl (mz_at hl 0 rfl) ?_
      refine lv_iload X.1 X.2.1 dX12_column_219 (mz_at hl 2 rfl) ?_
      refine mz_put X hH hS fp_RX12_286 dX12_column_221 rfl rfl hr (fun h H locs hr hH hS => ?_)
      refine lv_iload X.1 X.2.1 dX12_column_224 (mz_at hl 2 rfl) ?_
      exact mz_iret Y dX12_column_226 hH hS hc hs hr
    · refine mz_aload_n X dX12_column_188 rfl (mz_at hl 0 rfl) ?_
      refine mz_getR X hH fl_RX12_110 dX12_column_189 hr (fun v1 hr => ?_)
      refine lv_iload X.1 X.2.1 dX12_column_192 (mz_at hl 3 rfl) ?_
      refine mz_aload_n X dX12_column_194 rfl (mz_at hl 0 rfl) ?_
      refine mz_getR X hH fl_RX12_113 dX12_column_195 hr (fun v2 hr => ?_)
      refine lv_iload X.1 X.2.1 dX12_column_198 (mz_at hl 3 rfl) ?_
      refine mz_lald X hH dX12_column_200 hr (fun v3 hr => ?_)
      refine mz_last X hH hS dX12_column_201 hr (fun h H locs hr hH hS => ?_)
      obtain ⟨v4, hv4, hr⟩ := mz_op_some hr
      have hv4 := Option.some.inj hv4
      refine mz_iinc (k := 3) X [(5, false, .int v4), (0, false, va_rf a0), (3, false, .int x3), (4, false, .int x4)] v4 dX12_column_202 hl rfl hv4 (by decide) rfl (fun ls hl => ?_)
      refine lv_goto (tgt := 181) X.1 X.2.1 dX12_column_205 (by decide) ?_
      exact ih h a0 x3 x4 v4 _ _ hr H locs cells slots ls hH hS (mz_sub hl [1, 2, 3, 0] rfl) hc hs
def fn_X12_column_b172 (rc44 : mz_H → (Option Nat) → Int32 → Int32 → Int32 → Int32 → Int32 → mz_Res Int32) (h : mz_H) (a0 : (Option Nat)) (x1 : Int32) (x2 : Int32) (x3 : Int32) (x4 : Int32) (x5 : Int32) : mz_Res Int32 :=
  mz_op (some (x5 + 1)) fun v1 =>
  rc44 h a0 x1 x2 x3 x4 v1
set_option maxHeartbeats 4000000 in
set_option maxRecDepth 100000 in
theorem pf_X12_column_b172 (r : Int32) (Y : mz_Y p g RX12 cX12_column 8 (some .int) "column" (mz_AF h0) s m args meth c) {rc44 : mz_H → (Option Nat) → Int32 → Int32 → Int32 → Int32 → Int32 → mz_Res Int32} (hrc44 : ∀ (h : mz_H) (a0 : (Option Nat)) (x1 : Int32) (x2 : Int32) (x3 : Int32) (x4 : Int32) (x5 : Int32) (dc ds : Nat), rc44 h a0 x1 x2 x3 x4 x5 = some (r, hf, dc, ds) → mz_Go l g p e s m args below meth c 4 87 DC DS h0 (some (Value.int r)) hf 8 44 [(0, false, va_rf a0), (1, false, .int x1), (2, false, .int x2), (3, false, .int x3), (4, false, .int x4), (5, false, .int x5)] [] h dc ds) (h : mz_H) (a0 : (Option Nat)) (x1 : Int32) (x2 : Int32) (x3 : Int32) (x4 : Int32) (x5 : Int32) (dc ds : Nat) (hr : fn_X12_column_b172 rc44 h a0 x1 x2 x3 x4 x5 = some (r, hf, dc, ds)) : mz_Go l g p e s m args below meth c 4 87 DC DS h0 (some (Value.int r)) hf 8 172 [(0, false, va_rf a0), (1, false, .int x1), (2, false, .int x2), (3, false, .int x3), (4, false, .int x4), (5, false, .int x5)] [] h dc ds := by
  unfold fn_X12_column_b172 at hr
  intro H locs cells slots ls hH hS hl hc hs
  have X := Y.1
  obtain ⟨v1, hv1, hr⟩ := mz_op_some hr
  have hv1 := Option.some.inj hv1
  refine mz_iinc (k := 5) X [(5, false, .int v1), (0, false, va_rf a0), (1, false, .int x1), (2, false, .int x2), (3, false, .int x3), (4, false, .int x4)] v1 dX12_column_172 hl rfl hv1 (by decide) rfl (fun ls hl => ?_)
  refine lv_goto (tgt := 44) X.1 X.2.1 dX12_column_175 (by decide) ?_
  exact hrc44 h a0 x1 x2 x3 x4 v1 _ _ hr H locs cells slots ls hH hS (mz_sub hl [1, 2, 3, 4, 5, 0] rfl) hc hs
def fn_X12_column_b44 : Nat → mz_H → (Option Nat) → Int32 → Int32 → Int32 → Int32 → Int32 → mz_Res Int32
  | 0, _, _, _, _, _, _, _ => none
  | n + 1, h, a0, x1, x2, x3, x4, x5 =>
    mz_op (mz_fI h a0 11 32) fun v1 =>
    if v1 ≤ x5 then
      fn_X12_column_b181 1001 h a0 x3 x4 0
    else
      mz_chk (mz_is h a0 11) <| mz_call (fn_X12_slotOf h a0 x5 x2) fun v2 h =>
      mz_op (some ((16 * x5) + v2)) fun v3 =>
      if v2 = (-9) then
        fn_X12_column_b172 (fn_X12_column_b44 n) h a0 x1 x2 x3 x4 x5
      else
        mz_op (mz_fR h a0 11 37) fun v4 =>
        mz_op (mz_aI h v4 0 v3) fun v5 =>
        if v5 = 0 then
          mz_op (mz_fR h a0 11 36) fun v6 =>
          mz_op (mz_aI h v6 0 v3) fun v7 =>
          if v7 = 8 then
            fn_X12_column_b172 (fn_X12_column_b44 n) h a0 x1 x2 x3 x4 x5
          else
            mz_op (mz_fR h a0 11 33) fun v8 =>
            mz_op (mz_aI h v8 0 x5) fun v9 =>
            mz_chk (mz_is h a0 11) <| mz_call (fn_X12_isBelow h a0 v9 x1) fun v10 h =>
            if v10 = 0 then
              fn_X12_column_b172 (fn_X12_column_b44 n) h a0 x1 x2 x3 x4 x5
            else
              mz_op (mz_fR h a0 11 36) fun v11 =>
              mz_op (mz_aI h v11 0 v3) fun v12 =>
              mz_call (fn_X12_isWidened h v12 x3) fun v13 h =>
              if v13 = 0 then
                mz_chk (mz_is h a0 11) <| mz_call (fn_X12_fails h a0 7) fun v21 h =>
                mz_ret v21 h
              else
                mz_op (mz_fR h a0 11 48) fun v14 =>
                mz_op (mz_fR h a0 11 43) fun v15 =>
                mz_op (mz_aJ h v15 (900 * v3)) fun v16 =>
                mz_op (mz_fR h a0 11 36) fun v17 =>
                mz_op (mz_aI h v17 0 v3) fun v18 =>
                mz_call (fn_X12_widened h v16 v18 x3) fun v19 h =>
                mz_op (mz_sJ h v14 x4 v19) fun h =>
                mz_op (some (x4 + 1)) fun v20 =>
                fn_X12_column_b172 (fn_X12_column_b44 n) h a0 x1 x2 x3 v20 x5
        else
          fn_X12_column_b172 (fn_X12_column_b44 n) h a0 x1 x2 x3 x4 x5
set_option maxHeartbeats 4000000 in
set_option maxRecDepth 100000 in
theorem pf_X12_column_b44 (r : Int32) (Y : mz_Y p g RX12 cX12_column 8 (some .int) "column" (mz_AF h0) s m args meth c) : ∀ (n : Nat) (h : mz_H) (a0 : (Option Nat)) (x1 : Int32) (x2 : Int32) (x3 : Int32) (x4 : Int32) (x5 : Int32) (dc ds : Nat), fn_X12_column_b44 n h a0 x1 x2 x3 x4 x5 = some (r, hf, dc, ds) → mz_Go l g p e s m args below meth c 4 87 DC DS h0 (some (Value.int r)) hf 8 44 [(0, false, va_rf a0), (1, false, .int x1), (2, false, .int x2), (3, false, .int x3), (4, false, .int x4), (5, false, .int x5)] [] h dc ds := by
  have X := Y.1
  intro n
  induction n with
  | zero => intro h a0 x1 x2 x3 x4 x5 dc ds hr; simp [fn_X12_column_b44] at hr
  | succ n ih =>
    intro h a0 x1 x2 x3 x4 x5 dc ds hr
    rw [fn_X12_column_b44] at hr
    intro H locs cells slots ls hH hS hl hc hs
    refine lv_iload X.1 X.2.1 dX12_column_44 (mz_at hl 5 rfl) ?_
    refine mz_aload_n X dX12_column_46 rfl (mz_at hl 0 rfl) ?_
    refine mz_getI X hH fl_RX12_211 dX12_column_47 hr (fun v1 hr => ?_)
    refine mz_icmp_ge X 178 dX12_column_50 (by decide) hr (fun hr => ?_) (fun hr => ?_)
    · refine lv_iconst (v := 0) X.1 X.2.1 dX12_column_178 (by decide) ?_
      refine mz_istore X [(5, false, .int 0), (0, false, va_rf a0), (1, false, .int x1), (2, false, .int x2), (3, false, .int x3), (4, false, .int x4)] dX12_column_179 hl (by decide) rfl (fun ls hl => ?_)
      exact pf_X12_column_b181 r Y 1001 h a0 x3 x4 0 _ _ hr H locs cells slots ls hH hS (mz_sub hl [1, 4, 5, 0] rfl) hc hs
    · refine mz_aload_n X dX12_column_53 rfl (mz_at hl 0 rfl) ?_
      refine lv_iload X.1 X.2.1 dX12_column_54 (mz_at hl 5 rfl) ?_
      refine lv_iload_n X.1 X.2.1 dX12_column_56 rfl (mz_at hl 2 rfl) ?_
      refine mz_kV Value.int X hH hS hl.1.1 [.int x5, .int x2] [] hr (ct_X12_slotOf l g h a0 x5 x2) mb_RX12_223 rfl im_X12_slotOf rfl (Nat.le_of_ble_eq_true rfl) ⟨Nat.le_of_ble_eq_true rfl, Nat.le_of_ble_eq_true rfl⟩ hc hs dX12_column_57 rfl (fun v2 h H locs cells slots dc ds hr hH hS hc hs => ?_)
      refine mz_istore X [(6, false, .int v2), (0, false, va_rf a0), (1, false, .int x1), (2, false, .int x2), (3, false, .int x3), (4, false, .int x4), (5, false, .int x5)] dX12_column_60 hl (by decide) rfl (fun ls hl => ?_)
      refine lv_bipush (v := 16) X.1 X.2.1 dX12_column_62 (by decide) ?_
      refine lv_iload X.1 X.2.1 dX12_column_64 (mz_at hl 6 rfl) ?_
      refine lv_imul X.1 X.2.1 dX12_column_66 ?_
      refine lv_iload X.1 X.2.1 dX12_column_67 (mz_at hl 0 rfl) ?_
      refine lv_iadd X.1 X.2.1 dX12_column_69 ?_
      refine mz_topi hr (fun v3 hv3 hr => ?_)
      refine mz_istore X [(7, false, .int v3), (6, false, .int v2), (0, false, va_rf a0), (1, false, .int x1), (2, false, .int x2), (3, false, .int x3), (4, false, .int x4), (5, false, .int x5)] dX12_column_70 hl (by decide) rfl (fun ls hl => ?_)
      refine lv_iload X.1 X.2.1 dX12_column_72 (mz_at hl 1 rfl) ?_
      refine lv_bipush (v := (-9)) X.1 X.2.1 dX12_column_74 (by decide) ?_
      refine mz_icmp_eq X 172 dX12_column_76 (by decide) hr (fun hr => ?_) (fun hr => ?_)
      · exact pf_X12_column_b172 r Y ih h a0 x1 x2 x3 x4 x5 _ _ hr H locs cells slots ls hH hS (mz_sub hl [2, 3, 4, 5, 6, 7] rfl) hc hs
      · refine mz_aload_n X dX12_column_79 rfl (mz_at hl 2 rfl) ?_
        refine mz_getR X hH fl_RX12_87 dX12_column_80 hr (fun v4 hr => ?_)
        refine lv_iload X.1 X.2.1 dX12_column_83 (mz_at hl 0 rfl) ?_
        refine mz_iald X hH dX12_column_85 hr (fun v5 hr => ?_)
        refine mz_if_ne X 172 dX12_column_86 (by decide) hr (fun hr => ?_) (fun hr => ?_)
        · exact pf_X12_column_b172 r Y ih h a0 x1 x2 x3 x4 x5 _ _ hr H locs cells slots ls hH hS (mz_sub hl [2, 3, 4, 5, 6, 7] rfl) hc hs
        · refine mz_aload_n X dX12_column_89 rfl (mz_at hl 2 rfl) ?_
          refine mz_getR X hH fl_RX12_84 dX12_column_90 hr (fun v6 hr => ?_)
          refine lv_iload X.1 X.2.1 dX12_column_93 (mz_at hl 0 rfl) ?_
          refine mz_iald X hH dX12_column_95 hr (fun v7 hr => ?_)
          refine lv_bipush (v := 8) X.1 X.2.1 dX12_column_96 (by decide) ?_
          refine mz_icmp_eq X 172 dX12_column_98 (by decide) hr (fun hr => ?_) (fun hr => ?_)
          · exact pf_X12_column_b172 r Y ih h a0 x1 x2 x3 x4 x5 _ _ hr H locs cells slots ls hH hS (mz_sub hl [2, 3, 4, 5, 6, 7] rfl) hc hs
          · refine mz_aload_n X dX12_column_101 rfl (mz_at hl 2 rfl) ?_
            refine mz_aload_n X dX12_column_102 rfl (mz_at hl 2 rfl) ?_
            refine mz_getR X hH fl_RX12_75 dX12_column_103 hr (fun v8 hr => ?_)
            refine lv_iload X.1 X.2.1 dX12_column_106 (mz_at hl 7 rfl) ?_
            refine mz_iald X hH dX12_column_108 hr (fun v9 hr => ?_)
            refine lv_iload_n X.1 X.2.1 dX12_column_109 rfl (mz_at hl 3 rfl) ?_
            refine mz_kV Value.int X hH hS hl.1.1 [.int v9, .int x1] [] hr (ct_X12_isBelow l g h a0 v9 x1) mb_RX12_162 rfl im_X12_isBelow rfl (Nat.le_of_ble_eq_true rfl) ⟨Nat.le_of_ble_eq_true rfl, Nat.le_of_ble_eq_true rfl⟩ hc hs dX12_column_110 rfl (fun v10 h H locs cells slots dc ds hr hH hS hc hs => ?_)
            refine mz_if_ne X 119 dX12_column_113 (by decide) hr (fun hr => ?_) (fun hr => ?_)
            · refine mz_aload_n X dX12_column_119 rfl (mz_at hl 2 rfl) ?_
              refine mz_getR X hH fl_RX12_84 dX12_column_120 hr (fun v11 hr => ?_)
              refine lv_iload X.1 X.2.1 dX12_column_123 (mz_at hl 0 rfl) ?_
              refine mz_iald X hH dX12_column_125 hr (fun v12 hr => ?_)
              refine lv_iload_n X.1 X.2.1 dX12_column_126 rfl (mz_at hl 5 rfl) ?_
              refine mz_kS Value.int X hH hS hl.1.1 [.int v12, .int x3] [] hr (ct_X12_isWidened l g h v12 x3) mb_RX12_265 im_X12_isWidened rfl (Nat.le_of_ble_eq_true rfl) ⟨Nat.le_of_ble_eq_true rfl, Nat.le_of_ble_eq_true rfl⟩ hc hs dX12_column_127 rfl (fun v13 h H locs cells slots dc ds hr hH hS hc hs => ?_)
              refine mz_if_ne X 140 dX12_column_130 (by decide) hr (fun hr => ?_) (fun hr => ?_)
              · refine mz_aload_n X dX12_column_140 rfl (mz_at hl 2 rfl) ?_
                refine mz_getR X hH fl_RX12_113 dX12_column_141 hr (fun v14 hr => ?_)
                refine lv_iload X.1 X.2.1 dX12_column_144 (mz_at hl 6 rfl) ?_
                refine mz_aload_n X dX12_column_146 rfl (mz_at hl 2 rfl) ?_
                refine mz_getR X hH fl_RX12_106 dX12_column_147 hr (fun v15 hr => ?_)
                refine lv_sipush (v := 900) X.1 X.2.1 dX12_column_150 (by decide) ?_
                refine lv_iload X.1 X.2.1 dX12_column_153 (mz_at hl 0 rfl) ?_
                refine lv_imul X.1 X.2.1 dX12_column_155 ?_
                refine mz_lald X hH dX12_column_156 hr (fun v16 hr => ?_)
                refine mz_aload_n X dX12_column_157 rfl (mz_at hl 2 rfl) ?_
                refine mz_getR X hH fl_RX12_84 dX12_column_158 hr (fun v17 hr => ?_)
                refine lv_iload X.1 X.2.1 dX12_column_161 (mz_at hl 0 rfl) ?_
                refine mz_iald X hH dX12_column_163 hr (fun v18 hr => ?_)
                refine lv_iload_n X.1 X.2.1 dX12_column_164 rfl (mz_at hl 5 rfl) ?_
                refine mz_kS Value.long X hH hS hl.1.1 [.long v16, .int v18, .int x3] [.int x4, va_rf v14] hr (ct_X12_widened l g h v16 v18 x3) mb_RX12_268 im_X12_widened rfl (Nat.le_of_ble_eq_true rfl) ⟨Nat.le_of_ble_eq_true rfl, Nat.le_of_ble_eq_true rfl⟩ hc hs dX12_column_165 rfl (fun v19 h H locs cells slots dc ds hr hH hS hc hs => ?_)
                refine mz_last X hH hS dX12_column_168 hr (fun h H locs hr hH hS => ?_)
                obtain ⟨v20, hv20, hr⟩ := mz_op_some hr
                have hv20 := Option.some.inj hv20
                refine mz_iinc (k := 6) X [(4, false, .int v20), (7, false, .int v3), (6, false, .int v2), (0, false, va_rf a0), (1, false, .int x1), (2, false, .int x2), (3, false, .int x3), (5, false, .int x5)] v20 dX12_column_169 hl rfl hv20 (by decide) rfl (fun ls hl => ?_)
                exact pf_X12_column_b172 r Y ih h a0 x1 x2 x3 v20 x5 _ _ hr H locs cells slots ls hH hS (mz_sub hl [3, 4, 5, 6, 0, 7] rfl) hc hs
              · refine mz_aload_n X dX12_column_133 rfl (mz_at hl 2 rfl) ?_
                refine lv_bipush (v := 7) X.1 X.2.1 dX12_column_134 (by decide) ?_
                refine mz_kV Value.int X hH hS hl.1.1 [.int 7] [] hr (ct_X12_fails l g h a0 7) mb_RX12_131 rfl im_X12_fails rfl (Nat.le_of_ble_eq_true rfl) ⟨Nat.le_of_ble_eq_true rfl, Nat.le_of_ble_eq_true rfl⟩ hc hs dX12_column_136 rfl (fun v21 h H locs cells slots dc ds hr hH hS hc hs => ?_)
                exact mz_iret Y dX12_column_139 hH hS hc hs hr
            · refine lv_goto (tgt := 172) X.1 X.2.1 dX12_column_116 (by decide) ?_
              exact pf_X12_column_b172 r Y ih h a0 x1 x2 x3 x4 x5 _ _ hr H locs cells slots ls hH hS (mz_sub hl [2, 3, 4, 5, 6, 7] rfl) hc hs
def fn_X12_column (h : mz_H) (a0 : (Option Nat)) (x1 : Int32) (x2 : Int32) (x3 : Int32) : mz_Res Int32 :=
  mz_op (mz_pF h a0 11 0 (Value.int 0)) fun h =>
  mz_chk (mz_is h a0 11) <| mz_call (fn_X12_isClass h a0 x1) fun v1 h =>
  if v1 = 0 then
    mz_ret (-1) h
  else
    mz_call (fn_X12_within h x2 0 30) fun v2 h =>
    if v2 = 0 then
      mz_ret (-2) h
    else
      mz_call (fn_X12_within h x3 0 7) fun v3 h =>
      if v3 = 0 then
        mz_ret (-2) h
      else
        fn_X12_column_b44 1001 h a0 x1 x2 x3 0 0
set_option maxHeartbeats 4000000 in
set_option maxRecDepth 100000 in
theorem pf_X12_column_b0 (r : Int32) (Y : mz_Y p g RX12 cX12_column 8 (some .int) "column" (mz_AF h0) s m args meth c) (h : mz_H) (a0 : (Option Nat)) (x1 : Int32) (x2 : Int32) (x3 : Int32) (dc ds : Nat) (hr : fn_X12_column h a0 x1 x2 x3 = some (r, hf, dc, ds)) : mz_Go l g p e s m args below meth c 4 87 DC DS h0 (some (Value.int r)) hf 8 0 [(0, false, va_rf a0), (1, false, .int x1), (2, false, .int x2), (3, false, .int x3)] [] h dc ds := by
  unfold fn_X12_column at hr
  intro H locs cells slots ls hH hS hl hc hs
  have X := Y.1
  refine mz_aload_n X dX12_column_0 rfl (mz_at hl 0 rfl) ?_
  refine lv_iconst (v := 0) X.1 X.2.1 dX12_column_1 (by decide) ?_
  refine mz_put X hH hS fp_RX12_125 dX12_column_2 rfl rfl hr (fun h H locs hr hH hS => ?_)
  refine mz_aload_n X dX12_column_5 rfl (mz_at hl 0 rfl) ?_
  refine lv_iload_n X.1 X.2.1 dX12_column_6 rfl (mz_at hl 1 rfl) ?_
  refine mz_kV Value.int X hH hS hl.1.1 [.int x1] [] hr (ct_X12_isClass l g h a0 x1) mb_RX12_138 rfl im_X12_isClass rfl (Nat.le_of_ble_eq_true rfl) ⟨Nat.le_of_ble_eq_true rfl, Nat.le_of_ble_eq_true rfl⟩ hc hs dX12_column_7 rfl (fun v1 h H locs cells slots dc ds hr hH hS hc hs => ?_)
  refine mz_if_ne X 15 dX12_column_10 (by decide) hr (fun hr => ?_) (fun hr => ?_)
  · refine lv_iload_n X.1 X.2.1 dX12_column_15 rfl (mz_at hl 2 rfl) ?_
    refine lv_iconst (v := 0) X.1 X.2.1 dX12_column_16 (by decide) ?_
    refine lv_bipush (v := 30) X.1 X.2.1 dX12_column_17 (by decide) ?_
    refine mz_kS Value.int X hH hS hl.1.1 [.int x2, .int 0, .int 30] [] hr (ct_X12_within l g h x2 0 30) mb_RX12_142 im_X12_within rfl (Nat.le_of_ble_eq_true rfl) ⟨Nat.le_of_ble_eq_true rfl, Nat.le_of_ble_eq_true rfl⟩ hc hs dX12_column_19 rfl (fun v2 h H locs cells slots dc ds hr hH hS hc hs => ?_)
    refine mz_if_eq X 35 dX12_column_22 (by decide) hr (fun hr => ?_) (fun hr => ?_)
    · refine lv_bipush (v := (-2)) X.1 X.2.1 dX12_column_35 (by decide) ?_
      exact mz_iret Y dX12_column_37 hH hS hc hs hr
    · refine lv_iload_n X.1 X.2.1 dX12_column_25 rfl (mz_at hl 3 rfl) ?_
      refine lv_iconst (v := 0) X.1 X.2.1 dX12_column_26 (by decide) ?_
      refine lv_bipush (v := 7) X.1 X.2.1 dX12_column_27 (by decide) ?_
      refine mz_kS Value.int X hH hS hl.1.1 [.int x3, .int 0, .int 7] [] hr (ct_X12_within l g h x3 0 7) mb_RX12_142 im_X12_within rfl (Nat.le_of_ble_eq_true rfl) ⟨Nat.le_of_ble_eq_true rfl, Nat.le_of_ble_eq_true rfl⟩ hc hs dX12_column_29 rfl (fun v3 h H locs cells slots dc ds hr hH hS hc hs => ?_)
      refine mz_if_ne X 38 dX12_column_32 (by decide) hr (fun hr => ?_) (fun hr => ?_)
      · refine lv_iconst (v := 0) X.1 X.2.1 dX12_column_38 (by decide) ?_
        refine mz_istore X [(4, false, .int 0), (0, false, va_rf a0), (1, false, .int x1), (2, false, .int x2), (3, false, .int x3)] dX12_column_39 hl (by decide) rfl (fun ls hl => ?_)
        refine lv_iconst (v := 0) X.1 X.2.1 dX12_column_41 (by decide) ?_
        refine mz_istore X [(5, false, .int 0), (4, false, .int 0), (0, false, va_rf a0), (1, false, .int x1), (2, false, .int x2), (3, false, .int x3)] dX12_column_42 hl (by decide) rfl (fun ls hl => ?_)
        exact pf_X12_column_b44 r Y 1001 h a0 x1 x2 x3 0 0 _ _ hr H locs cells slots ls hH hS (mz_sub hl [2, 3, 4, 5, 1, 0] rfl) hc hs
      · refine lv_bipush (v := (-2)) X.1 X.2.1 dX12_column_35 (by decide) ?_
        exact mz_iret Y dX12_column_37 hH hS hc hs hr
  · refine lv_iconst (v := (-1)) X.1 X.2.1 dX12_column_13 (by decide) ?_
    exact mz_iret Y dX12_column_14 hH hS hc hs hr
set_option maxRecDepth 100000 in
theorem ct_X12_column (l : Launch) (g : mz_G) (h : mz_H) (a0 : (Option Nat)) (x1 : Int32) (x2 : Int32) (x3 : Int32) (r : Int32) (hf : mz_H) (k n : Nat) (hr : fn_X12_column h a0 x1 x2 x3 = some (r, hf, k, n)) : mz_C l g yX12_column cX12_column 8 (some .int) 4 87 [va_rf a0, .int x1, .int x2, .int x3] h (some (Value.int r)) hf k n := by
  refine mz_met (as := [(false, va_rf a0), (false, .int x1), (false, .int x2), (false, .int x3)]) (plainFor_of_name (by decide)) (mz_c1 (mz_cat_rf _) (mz_c1 rfl (mz_c1 rfl (mz_c1 rfl mz_c0)))) (Nat.le_of_ble_eq_true rfl) ?_
  intro p e s m args below meth c Y
  exact pf_X12_column_b0 r Y h a0 x1 x2 x3 _ _ hr
theorem dX12_cell_0 : decode cX12_cell 0 = .ok (.aload_n 0, 1) := by decide +kernel
theorem dX12_cell_1 : decode cX12_cell 1 = .ok (.iconst 0, 1) := by decide +kernel
theorem dX12_cell_2 : decode cX12_cell 2 = .ok (.putfield 125, 3) := by decide +kernel
theorem dX12_cell_5 : decode cX12_cell 5 = .ok (.aload_n 0, 1) := by decide +kernel
theorem dX12_cell_6 : decode cX12_cell 6 = .ok (.getfield 279, 3) := by decide +kernel
theorem dX12_cell_9 : decode cX12_cell 9 = .ok (.ifCond .ne 5, 3) := by decide +kernel
theorem dX12_cell_12 : decode cX12_cell 12 = .ok (.lconst 0, 1) := by decide +kernel
theorem dX12_cell_13 : decode cX12_cell 13 = .ok (.lreturn, 1) := by decide +kernel
theorem dX12_cell_14 : decode cX12_cell 14 = .ok (.iload_n 1, 1) := by decide +kernel
theorem dX12_cell_15 : decode cX12_cell 15 = .ok (.ifCond .lt 11, 3) := by decide +kernel
theorem dX12_cell_18 : decode cX12_cell 18 = .ok (.iload_n 1, 1) := by decide +kernel
theorem dX12_cell_19 : decode cX12_cell 19 = .ok (.aload_n 0, 1) := by decide +kernel
theorem dX12_cell_20 : decode cX12_cell 20 = .ok (.getfield 286, 3) := by decide +kernel
theorem dX12_cell_23 : decode cX12_cell 23 = .ok (.if_icmp .lt 11, 3) := by decide +kernel
theorem dX12_cell_26 : decode cX12_cell 26 = .ok (.aload_n 0, 1) := by decide +kernel
theorem dX12_cell_27 : decode cX12_cell 27 = .ok (.iconst 3, 1) := by decide +kernel
theorem dX12_cell_28 : decode cX12_cell 28 = .ok (.invokevirtual 233, 3) := by decide +kernel
theorem dX12_cell_31 : decode cX12_cell 31 = .ok (.goto 9, 3) := by decide +kernel
theorem dX12_cell_34 : decode cX12_cell 34 = .ok (.aload_n 0, 1) := by decide +kernel
theorem dX12_cell_35 : decode cX12_cell 35 = .ok (.getfield 110, 3) := by decide +kernel
theorem dX12_cell_38 : decode cX12_cell 38 = .ok (.iload_n 1, 1) := by decide +kernel
theorem dX12_cell_39 : decode cX12_cell 39 = .ok (.laload, 1) := by decide +kernel
theorem dX12_cell_40 : decode cX12_cell 40 = .ok (.lreturn, 1) := by decide +kernel
def fn_X12_cell_b26 (h : mz_H) (a0 : (Option Nat)) : mz_Res Int64 :=
  mz_chk (mz_is h a0 11) <| mz_call (fn_X12_failsLong h a0 3) fun v1 h =>
  mz_ret v1 h
set_option maxHeartbeats 4000000 in
set_option maxRecDepth 100000 in
theorem pf_X12_cell_b26 (r : Int64) (Y : mz_Y p g RX12 cX12_cell 2 (some .long) "cell" (mz_AF h0) s m args meth c) (h : mz_H) (a0 : (Option Nat)) (dc ds : Nat) (hr : fn_X12_cell_b26 h a0 = some (r, hf, dc, ds)) : mz_Go l g p e s m args below meth c 2 42 DC DS h0 (some (Value.long r)) hf 2 26 [(0, false, va_rf a0)] [] h dc ds := by
  unfold fn_X12_cell_b26 at hr
  intro H locs cells slots ls hH hS hl hc hs
  have X := Y.1
  refine mz_aload_n X dX12_cell_26 rfl (mz_at hl 0 rfl) ?_
  refine lv_iconst (v := 3) X.1 X.2.1 dX12_cell_27 (by decide) ?_
  refine mz_kV Value.long X hH hS hl.1.1 [.int 3] [] hr (ct_X12_failsLong l g h a0 3) mb_RX12_233 rfl im_X12_failsLong rfl (Nat.le_of_ble_eq_true rfl) ⟨Nat.le_of_ble_eq_true rfl, Nat.le_of_ble_eq_true rfl⟩ hc hs dX12_cell_28 rfl (fun v1 h H locs cells slots dc ds hr hH hS hc hs => ?_)
  refine lv_goto (tgt := 40) X.1 X.2.1 dX12_cell_31 (by decide) ?_
  exact mz_lret Y dX12_cell_40 hH hS hc hs hr
def fn_X12_cell (h : mz_H) (a0 : (Option Nat)) (x1 : Int32) : mz_Res Int64 :=
  mz_op (mz_pF h a0 11 0 (Value.int 0)) fun h =>
  mz_op (mz_fI h a0 11 44) fun v1 =>
  if v1 = 0 then
    mz_ret 0 h
  else
    if x1 < 0 then
      fn_X12_cell_b26 h a0
    else
      mz_op (mz_fI h a0 11 46) fun v2 =>
      if x1 < v2 then
        mz_op (mz_fR h a0 11 47) fun v3 =>
        mz_op (mz_aJ h v3 x1) fun v4 =>
        mz_ret v4 h
      else
        fn_X12_cell_b26 h a0
set_option maxHeartbeats 4000000 in
set_option maxRecDepth 100000 in
theorem pf_X12_cell_b0 (r : Int64) (Y : mz_Y p g RX12 cX12_cell 2 (some .long) "cell" (mz_AF h0) s m args meth c) (h : mz_H) (a0 : (Option Nat)) (x1 : Int32) (dc ds : Nat) (hr : fn_X12_cell h a0 x1 = some (r, hf, dc, ds)) : mz_Go l g p e s m args below meth c 2 42 DC DS h0 (some (Value.long r)) hf 2 0 [(0, false, va_rf a0), (1, false, .int x1)] [] h dc ds := by
  unfold fn_X12_cell at hr
  intro H locs cells slots ls hH hS hl hc hs
  have X := Y.1
  refine mz_aload_n X dX12_cell_0 rfl (mz_at hl 0 rfl) ?_
  refine lv_iconst (v := 0) X.1 X.2.1 dX12_cell_1 (by decide) ?_
  refine mz_put X hH hS fp_RX12_125 dX12_cell_2 rfl rfl hr (fun h H locs hr hH hS => ?_)
  refine mz_aload_n X dX12_cell_5 rfl (mz_at hl 0 rfl) ?_
  refine mz_getI X hH fl_RX12_279 dX12_cell_6 hr (fun v1 hr => ?_)
  refine mz_if_ne X 14 dX12_cell_9 (by decide) hr (fun hr => ?_) (fun hr => ?_)
  · refine lv_iload_n X.1 X.2.1 dX12_cell_14 rfl (mz_at hl 1 rfl) ?_
    refine mz_if_lt X 26 dX12_cell_15 (by decide) hr (fun hr => ?_) (fun hr => ?_)
    · exact pf_X12_cell_b26 r Y h a0 _ _ hr H locs cells slots ls hH hS (mz_sub hl [0] rfl) hc hs
    · refine lv_iload_n X.1 X.2.1 dX12_cell_18 rfl (mz_at hl 1 rfl) ?_
      refine mz_aload_n X dX12_cell_19 rfl (mz_at hl 0 rfl) ?_
      refine mz_getI X hH fl_RX12_286 dX12_cell_20 hr (fun v2 hr => ?_)
      refine mz_icmp_lt X 34 dX12_cell_23 (by decide) hr (fun hr => ?_) (fun hr => ?_)
      · refine mz_aload_n X dX12_cell_34 rfl (mz_at hl 0 rfl) ?_
        refine mz_getR X hH fl_RX12_110 dX12_cell_35 hr (fun v3 hr => ?_)
        refine lv_iload_n X.1 X.2.1 dX12_cell_38 rfl (mz_at hl 1 rfl) ?_
        refine mz_lald X hH dX12_cell_39 hr (fun v4 hr => ?_)
        exact mz_lret Y dX12_cell_40 hH hS hc hs hr
      · exact pf_X12_cell_b26 r Y h a0 _ _ hr H locs cells slots ls hH hS (mz_sub hl [0] rfl) hc hs
  · refine lv_lconst (v := 0) X.1 X.2.1 dX12_cell_12 (by decide) ?_
    exact mz_lret Y dX12_cell_13 hH hS hc hs hr
set_option maxRecDepth 100000 in
theorem ct_X12_cell (l : Launch) (g : mz_G) (h : mz_H) (a0 : (Option Nat)) (x1 : Int32) (r : Int64) (hf : mz_H) (k n : Nat) (hr : fn_X12_cell h a0 x1 = some (r, hf, k, n)) : mz_C l g yX12_cell cX12_cell 2 (some .long) 2 42 [va_rf a0, .int x1] h (some (Value.long r)) hf k n := by
  refine mz_met (as := [(false, va_rf a0), (false, .int x1)]) (plainFor_of_name (by decide)) (mz_c1 (mz_cat_rf _) (mz_c1 rfl mz_c0)) (Nat.le_of_ble_eq_true rfl) ?_
  intro p e s m args below meth c Y
  exact pf_X12_cell_b0 r Y h a0 x1 _ _ hr
end

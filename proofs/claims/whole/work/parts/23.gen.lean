/-! X12_hold X12_isObject X12_isSlot X12_clear X12_make X12_of X12_slotOf X12_slot X12_kind X12_row X12_inner -/
section
variable {p : Program} {l : Launch} {e : Env} {s : State} {m : MethodId} {args : Array Value} {below : List Frame} {meth : Method} {c : Code} {g : mz_G} {h0 hf : mz_H} {DC DS : Nat}
theorem dX12_hold_0 : decode cX12_hold 0 = .ok (.aload_n 0, 1) := by decide +kernel
theorem dX12_hold_1 : decode cX12_hold 1 = .ok (.iload_n 1, 1) := by decide +kernel
theorem dX12_hold_2 : decode cX12_hold 2 = .ok (.invokevirtual 138, 3) := by decide +kernel
theorem dX12_hold_5 : decode cX12_hold 5 = .ok (.ifCond .ne 5, 3) := by decide +kernel
theorem dX12_hold_8 : decode cX12_hold 8 = .ok (.iconst (-1), 1) := by decide +kernel
theorem dX12_hold_9 : decode cX12_hold 9 = .ok (.ireturn, 1) := by decide +kernel
theorem dX12_hold_10 : decode cX12_hold 10 = .ok (.iload_n 2, 1) := by decide +kernel
theorem dX12_hold_11 : decode cX12_hold 11 = .ok (.iconst 1, 1) := by decide +kernel
theorem dX12_hold_12 : decode cX12_hold 12 = .ok (.bipush 20, 2) := by decide +kernel
theorem dX12_hold_14 : decode cX12_hold 14 = .ok (.invokestatic 142, 3) := by decide +kernel
theorem dX12_hold_17 : decode cX12_hold 17 = .ok (.ifCond .ne 6, 3) := by decide +kernel
theorem dX12_hold_20 : decode cX12_hold 20 = .ok (.bipush (-2), 2) := by decide +kernel
theorem dX12_hold_22 : decode cX12_hold 22 = .ok (.ireturn, 1) := by decide +kernel
theorem dX12_hold_23 : decode cX12_hold 23 = .ok (.aload_n 0, 1) := by decide +kernel
theorem dX12_hold_24 : decode cX12_hold 24 = .ok (.getfield 47, 3) := by decide +kernel
theorem dX12_hold_27 : decode cX12_hold 27 = .ok (.iconst 3, 1) := by decide +kernel
theorem dX12_hold_28 : decode cX12_hold 28 = .ok (.iload_n 1, 1) := by decide +kernel
theorem dX12_hold_29 : decode cX12_hold 29 = .ok (.imul, 1) := by decide +kernel
theorem dX12_hold_30 : decode cX12_hold 30 = .ok (.dup2, 1) := by decide +kernel
theorem dX12_hold_31 : decode cX12_hold 31 = .ok (.iaload, 1) := by decide +kernel
theorem dX12_hold_32 : decode cX12_hold 32 = .ok (.iload_n 2, 1) := by decide +kernel
theorem dX12_hold_33 : decode cX12_hold 33 = .ok (.iload_n 3, 1) := by decide +kernel
theorem dX12_hold_34 : decode cX12_hold 34 = .ok (.imul, 1) := by decide +kernel
theorem dX12_hold_35 : decode cX12_hold 35 = .ok (.iadd, 1) := by decide +kernel
theorem dX12_hold_36 : decode cX12_hold 36 = .ok (.iastore, 1) := by decide +kernel
theorem dX12_hold_37 : decode cX12_hold 37 = .ok (.aload_n 0, 1) := by decide +kernel
theorem dX12_hold_38 : decode cX12_hold 38 = .ok (.getfield 47, 3) := by decide +kernel
theorem dX12_hold_41 : decode cX12_hold 41 = .ok (.iconst 3, 1) := by decide +kernel
theorem dX12_hold_42 : decode cX12_hold 42 = .ok (.iload_n 1, 1) := by decide +kernel
theorem dX12_hold_43 : decode cX12_hold 43 = .ok (.imul, 1) := by decide +kernel
theorem dX12_hold_44 : decode cX12_hold 44 = .ok (.iaload, 1) := by decide +kernel
theorem dX12_hold_45 : decode cX12_hold 45 = .ok (.ireturn, 1) := by decide +kernel
def fn_X12_hold (h : mz_H) (a0 : (Option Nat)) (x1 : Int32) (x2 : Int32) (x3 : Int32) : mz_Res Int32 :=
  mz_chk (mz_is h a0 11) <| mz_call (fn_X12_isClass h a0 x1) fun v1 h =>
  if v1 = 0 then
    mz_ret (-1) h
  else
    mz_call (fn_X12_within h x2 1 20) fun v2 h =>
    if v2 = 0 then
      mz_ret (-2) h
    else
      mz_op (mz_fR h a0 11 15) fun v3 =>
      mz_op (mz_aI h v3 0 (3 * x1)) fun v4 =>
      mz_op (mz_sI h v3 0 (3 * x1) (v4 + (x2 * x3))) fun h =>
      mz_op (mz_fR h a0 11 15) fun v5 =>
      mz_op (mz_aI h v5 0 (3 * x1)) fun v6 =>
      mz_ret v6 h
set_option maxHeartbeats 4000000 in
set_option maxRecDepth 100000 in
theorem pf_X12_hold_b0 (r : Int32) (Y : mz_Y p g RX12 cX12_hold 4 (some .int) "hold" (mz_AF h0) s m args meth c) (h : mz_H) (a0 : (Option Nat)) (x1 : Int32) (x2 : Int32) (x3 : Int32) (dc ds : Nat) (hr : fn_X12_hold h a0 x1 x2 x3 = some (r, hf, dc, ds)) : mz_Go l g p e s m args below meth c 1 22 DC DS h0 (some (Value.int r)) hf 4 0 [(0, false, va_rf a0), (1, false, .int x1), (2, false, .int x2), (3, false, .int x3)] [] h dc ds := by
  unfold fn_X12_hold at hr
  intro H locs cells slots ls hH hS hl hc hs
  have X := Y.1
  refine mz_aload_n X dX12_hold_0 rfl (mz_at hl 0 rfl) ?_
  refine lv_iload_n X.1 X.2.1 dX12_hold_1 rfl (mz_at hl 1 rfl) ?_
  refine mz_kV Value.int X hH hS hl.1.1 [.int x1] [] hr (ct_X12_isClass l g h a0 x1) mb_RX12_138 rfl im_X12_isClass rfl (Nat.le_of_ble_eq_true rfl) ⟨Nat.le_of_ble_eq_true rfl, Nat.le_of_ble_eq_true rfl⟩ hc hs dX12_hold_2 rfl (fun v1 h H locs cells slots dc ds hr hH hS hc hs => ?_)
  refine mz_if_ne X 10 dX12_hold_5 (by decide) hr (fun hr => ?_) (fun hr => ?_)
  · refine lv_iload_n X.1 X.2.1 dX12_hold_10 rfl (mz_at hl 2 rfl) ?_
    refine lv_iconst (v := 1) X.1 X.2.1 dX12_hold_11 (by decide) ?_
    refine lv_bipush (v := 20) X.1 X.2.1 dX12_hold_12 (by decide) ?_
    refine mz_kS Value.int X hH hS hl.1.1 [.int x2, .int 1, .int 20] [] hr (ct_X12_within l g h x2 1 20) mb_RX12_142 im_X12_within rfl (Nat.le_of_ble_eq_true rfl) ⟨Nat.le_of_ble_eq_true rfl, Nat.le_of_ble_eq_true rfl⟩ hc hs dX12_hold_14 rfl (fun v2 h H locs cells slots dc ds hr hH hS hc hs => ?_)
    refine mz_if_ne X 23 dX12_hold_17 (by decide) hr (fun hr => ?_) (fun hr => ?_)
    · refine mz_aload_n X dX12_hold_23 rfl (mz_at hl 0 rfl) ?_
      refine mz_getR X hH fl_RX12_47 dX12_hold_24 hr (fun v3 hr => ?_)
      refine lv_iconst (v := 3) X.1 X.2.1 dX12_hold_27 (by decide) ?_
      refine lv_iload_n X.1 X.2.1 dX12_hold_28 rfl (mz_at hl 1 rfl) ?_
      refine lv_imul X.1 X.2.1 dX12_hold_29 ?_
      refine mz_dup2 X dX12_hold_30 ?_
      refine mz_iald X hH dX12_hold_31 hr (fun v4 hr => ?_)
      refine lv_iload_n X.1 X.2.1 dX12_hold_32 rfl (mz_at hl 2 rfl) ?_
      refine lv_iload_n X.1 X.2.1 dX12_hold_33 rfl (mz_at hl 3 rfl) ?_
      refine lv_imul X.1 X.2.1 dX12_hold_34 ?_
      refine lv_iadd X.1 X.2.1 dX12_hold_35 ?_
      refine mz_iast X hH hS dX12_hold_36 hr (fun h H locs hr hH hS => ?_)
      refine mz_aload_n X dX12_hold_37 rfl (mz_at hl 0 rfl) ?_
      refine mz_getR X hH fl_RX12_47 dX12_hold_38 hr (fun v5 hr => ?_)
      refine lv_iconst (v := 3) X.1 X.2.1 dX12_hold_41 (by decide) ?_
      refine lv_iload_n X.1 X.2.1 dX12_hold_42 rfl (mz_at hl 1 rfl) ?_
      refine lv_imul X.1 X.2.1 dX12_hold_43 ?_
      refine mz_iald X hH dX12_hold_44 hr (fun v6 hr => ?_)
      exact mz_iret Y dX12_hold_45 hH hS hc hs hr
    · refine lv_bipush (v := (-2)) X.1 X.2.1 dX12_hold_20 (by decide) ?_
      exact mz_iret Y dX12_hold_22 hH hS hc hs hr
  · refine lv_iconst (v := (-1)) X.1 X.2.1 dX12_hold_8 (by decide) ?_
    exact mz_iret Y dX12_hold_9 hH hS hc hs hr
set_option maxRecDepth 100000 in
theorem ct_X12_hold (l : Launch) (g : mz_G) (h : mz_H) (a0 : (Option Nat)) (x1 : Int32) (x2 : Int32) (x3 : Int32) (r : Int32) (hf : mz_H) (k n : Nat) (hr : fn_X12_hold h a0 x1 x2 x3 = some (r, hf, k, n)) : mz_C l g yX12_hold cX12_hold 4 (some .int) 1 22 [va_rf a0, .int x1, .int x2, .int x3] h (some (Value.int r)) hf k n := by
  refine mz_met (as := [(false, va_rf a0), (false, .int x1), (false, .int x2), (false, .int x3)]) (plainFor_of_name (by decide)) (mz_c1 (mz_cat_rf _) (mz_c1 rfl (mz_c1 rfl (mz_c1 rfl mz_c0)))) (Nat.le_of_ble_eq_true rfl) ?_
  intro p e s m args below meth c Y
  exact pf_X12_hold_b0 r Y h a0 x1 x2 x3 _ _ hr
theorem dX12_isObject_0 : decode cX12_isObject 0 = .ok (.iload_n 1, 1) := by decide +kernel
theorem dX12_isObject_1 : decode cX12_isObject 1 = .ok (.ifCond .lt 15, 3) := by decide +kernel
theorem dX12_isObject_4 : decode cX12_isObject 4 = .ok (.iload_n 1, 1) := by decide +kernel
theorem dX12_isObject_5 : decode cX12_isObject 5 = .ok (.aload_n 0, 1) := by decide +kernel
theorem dX12_isObject_6 : decode cX12_isObject 6 = .ok (.getfield 211, 3) := by decide +kernel
theorem dX12_isObject_9 : decode cX12_isObject 9 = .ok (.if_icmp .ge 7, 3) := by decide +kernel
theorem dX12_isObject_12 : decode cX12_isObject 12 = .ok (.iconst 1, 1) := by decide +kernel
theorem dX12_isObject_13 : decode cX12_isObject 13 = .ok (.goto 4, 3) := by decide +kernel
theorem dX12_isObject_16 : decode cX12_isObject 16 = .ok (.iconst 0, 1) := by decide +kernel
theorem dX12_isObject_17 : decode cX12_isObject 17 = .ok (.ireturn, 1) := by decide +kernel
def fn_X12_isObject (h : mz_H) (a0 : (Option Nat)) (x1 : Int32) : mz_Res Int32 :=
  if x1 < 0 then
    mz_chk ((0 : Int32) &&& 1 == 0) (mz_ret 0 h)
  else
    mz_op (mz_fI h a0 11 32) fun v1 =>
    if v1 ≤ x1 then
      mz_chk ((0 : Int32) &&& 1 == 0) (mz_ret 0 h)
    else
      mz_chk ((1 : Int32) &&& 1 == 1) (mz_ret 1 h)
set_option maxHeartbeats 4000000 in
set_option maxRecDepth 100000 in
theorem pf_X12_isObject_b0 (r : Int32) (Y : mz_Y p g RX12 cX12_isObject 2 (some .boolean) "isObject" (mz_AF h0) s m args meth c) (h : mz_H) (a0 : (Option Nat)) (x1 : Int32) (dc ds : Nat) (hr : fn_X12_isObject h a0 x1 = some (r, hf, dc, ds)) : mz_Go l g p e s m args below meth c 0 0 DC DS h0 (some (Value.int r)) hf 2 0 [(0, false, va_rf a0), (1, false, .int x1)] [] h dc ds := by
  unfold fn_X12_isObject at hr
  intro H locs cells slots ls hH hS hl hc hs
  have X := Y.1
  refine lv_iload_n X.1 X.2.1 dX12_isObject_0 rfl (mz_at hl 1 rfl) ?_
  refine mz_if_lt X 16 dX12_isObject_1 (by decide) hr (fun hr => ?_) (fun hr => ?_)
  · refine lv_iconst (v := 0) X.1 X.2.1 dX12_isObject_16 (by decide) ?_
    exact mz_zret Y dX12_isObject_17 hH hS hc hs hr
  · refine lv_iload_n X.1 X.2.1 dX12_isObject_4 rfl (mz_at hl 1 rfl) ?_
    refine mz_aload_n X dX12_isObject_5 rfl (mz_at hl 0 rfl) ?_
    refine mz_getI X hH fl_RX12_211 dX12_isObject_6 hr (fun v1 hr => ?_)
    refine mz_icmp_ge X 16 dX12_isObject_9 (by decide) hr (fun hr => ?_) (fun hr => ?_)
    · refine lv_iconst (v := 0) X.1 X.2.1 dX12_isObject_16 (by decide) ?_
      exact mz_zret Y dX12_isObject_17 hH hS hc hs hr
    · refine lv_iconst (v := 1) X.1 X.2.1 dX12_isObject_12 (by decide) ?_
      refine lv_goto (tgt := 17) X.1 X.2.1 dX12_isObject_13 (by decide) ?_
      exact mz_zret Y dX12_isObject_17 hH hS hc hs hr
set_option maxRecDepth 100000 in
theorem ct_X12_isObject (l : Launch) (g : mz_G) (h : mz_H) (a0 : (Option Nat)) (x1 : Int32) (r : Int32) (hf : mz_H) (k n : Nat) (hr : fn_X12_isObject h a0 x1 = some (r, hf, k, n)) : mz_C l g yX12_isObject cX12_isObject 2 (some .boolean) 0 0 [va_rf a0, .int x1] h (some (Value.int r)) hf k n := by
  refine mz_met (as := [(false, va_rf a0), (false, .int x1)]) (plainFor_of_name (by decide)) (mz_c1 (mz_cat_rf _) (mz_c1 rfl mz_c0)) (Nat.le_of_ble_eq_true rfl) ?_
  intro p e s m args below meth c Y
  exact pf_X12_isObject_b0 r Y h a0 x1 _ _ hr
theorem dX12_isSlot_0 : decode cX12_isSlot 0 = .ok (.aload_n 0, 1) := by decide +kernel
theorem dX12_isSlot_1 : decode cX12_isSlot 1 = .ok (.iload_n 1, 1) := by decide +kernel
theorem dX12_isSlot_2 : decode cX12_isSlot 2 = .ok (.invokevirtual 214, 3) := by decide +kernel
theorem dX12_isSlot_5 : decode cX12_isSlot 5 = .ok (.ifCond .eq 21, 3) := by decide +kernel
theorem dX12_isSlot_8 : decode cX12_isSlot 8 = .ok (.iload_n 2, 1) := by decide +kernel
theorem dX12_isSlot_9 : decode cX12_isSlot 9 = .ok (.ifCond .lt 17, 3) := by decide +kernel
theorem dX12_isSlot_12 : decode cX12_isSlot 12 = .ok (.iload_n 2, 1) := by decide +kernel
theorem dX12_isSlot_13 : decode cX12_isSlot 13 = .ok (.aload_n 0, 1) := by decide +kernel
theorem dX12_isSlot_14 : decode cX12_isSlot 14 = .ok (.getfield 78, 3) := by decide +kernel
theorem dX12_isSlot_17 : decode cX12_isSlot 17 = .ok (.iload_n 1, 1) := by decide +kernel
theorem dX12_isSlot_18 : decode cX12_isSlot 18 = .ok (.iaload, 1) := by decide +kernel
theorem dX12_isSlot_19 : decode cX12_isSlot 19 = .ok (.if_icmp .ge 7, 3) := by decide +kernel
theorem dX12_isSlot_22 : decode cX12_isSlot 22 = .ok (.iconst 1, 1) := by decide +kernel
theorem dX12_isSlot_23 : decode cX12_isSlot 23 = .ok (.goto 4, 3) := by decide +kernel
theorem dX12_isSlot_26 : decode cX12_isSlot 26 = .ok (.iconst 0, 1) := by decide +kernel
theorem dX12_isSlot_27 : decode cX12_isSlot 27 = .ok (.ireturn, 1) := by decide +kernel
def fn_X12_isSlot (h : mz_H) (a0 : (Option Nat)) (x1 : Int32) (x2 : Int32) : mz_Res Int32 :=
  mz_chk (mz_is h a0 11) <| mz_call (fn_X12_isObject h a0 x1) fun v1 h =>
  if v1 = 0 then
    mz_chk ((0 : Int32) &&& 1 == 0) (mz_ret 0 h)
  else
    if x2 < 0 then
      mz_chk ((0 : Int32) &&& 1 == 0) (mz_ret 0 h)
    else
      mz_op (mz_fR h a0 11 34) fun v2 =>
      mz_op (mz_aI h v2 0 x1) fun v3 =>
      if v3 ≤ x2 then
        mz_chk ((0 : Int32) &&& 1 == 0) (mz_ret 0 h)
      else
        mz_chk ((1 : Int32) &&& 1 == 1) (mz_ret 1 h)
set_option maxHeartbeats 4000000 in
set_option maxRecDepth 100000 in
theorem pf_X12_isSlot_b0 (r : Int32) (Y : mz_Y p g RX12 cX12_isSlot 3 (some .boolean) "isSlot" (mz_AF h0) s m args meth c) (h : mz_H) (a0 : (Option Nat)) (x1 : Int32) (x2 : Int32) (dc ds : Nat) (hr : fn_X12_isSlot h a0 x1 x2 = some (r, hf, dc, ds)) : mz_Go l g p e s m args below meth c 1 21 DC DS h0 (some (Value.int r)) hf 3 0 [(0, false, va_rf a0), (1, false, .int x1), (2, false, .int x2)] [] h dc ds := by
  unfold fn_X12_isSlot at hr
  intro H locs cells slots ls hH hS hl hc hs
  have X := Y.1
  refine mz_aload_n X dX12_isSlot_0 rfl (mz_at hl 0 rfl) ?_
  refine lv_iload_n X.1 X.2.1 dX12_isSlot_1 rfl (mz_at hl 1 rfl) ?_
  refine mz_kV Value.int X hH hS hl.1.1 [.int x1] [] hr (ct_X12_isObject l g h a0 x1) mb_RX12_214 rfl im_X12_isObject rfl (Nat.le_of_ble_eq_true rfl) ⟨Nat.le_of_ble_eq_true rfl, Nat.le_of_ble_eq_true rfl⟩ hc hs dX12_isSlot_2 rfl (fun v1 h H locs cells slots dc ds hr hH hS hc hs => ?_)
  refine mz_if_eq X 26 dX12_isSlot_5 (by decide) hr (fun hr => ?_) (fun hr => ?_)
  · refine lv_iconst (v := 0) X.1 X.2.1 dX12_isSlot_26 (by decide) ?_
    exact mz_zret Y dX12_isSlot_27 hH hS hc hs hr
  · refine lv_iload_n X.1 X.2.1 dX12_isSlot_8 rfl (mz_at hl 2 rfl) ?_
    refine mz_if_lt X 26 dX12_isSlot_9 (by decide) hr (fun hr => ?_) (fun hr => ?_)
    · refine lv_iconst (v := 0) X.1 X.2.1 dX12_isSlot_26 (by decide) ?_
      exact mz_zret Y dX12_isSlot_27 hH hS hc hs hr
    · refine lv_iload_n X.1 X.2.1 dX12_isSlot_12 rfl (mz_at hl 2 rfl) ?_
      refine mz_aload_n X dX12_isSlot_13 rfl (mz_at hl 0 rfl) ?_
      refine mz_getR X hH fl_RX12_78 dX12_isSlot_14 hr (fun v2 hr => ?_)
      refine lv_iload_n X.1 X.2.1 dX12_isSlot_17 rfl (mz_at hl 1 rfl) ?_
      refine mz_iald X hH dX12_isSlot_18 hr (fun v3 hr => ?_)
      refine mz_icmp_ge X 26 dX12_isSlot_19 (by decide) hr (fun hr => ?_) (fun hr => ?_)
      · refine lv_iconst (v := 0) X.1 X.2.1 dX12_isSlot_26 (by decide) ?_
        exact mz_zret Y dX12_isSlot_27 hH hS hc hs hr
      · refine lv_iconst (v := 1) X.1 X.2.1 dX12_isSlot_22 (by decide) ?_
        refine lv_goto (tgt := 27) X.1 X.2.1 dX12_isSlot_23 (by decide) ?_
        exact mz_zret Y dX12_isSlot_27 hH hS hc hs hr
set_option maxRecDepth 100000 in
theorem ct_X12_isSlot (l : Launch) (g : mz_G) (h : mz_H) (a0 : (Option Nat)) (x1 : Int32) (x2 : Int32) (r : Int32) (hf : mz_H) (k n : Nat) (hr : fn_X12_isSlot h a0 x1 x2 = some (r, hf, k, n)) : mz_C l g yX12_isSlot cX12_isSlot 3 (some .boolean) 1 21 [va_rf a0, .int x1, .int x2] h (some (Value.int r)) hf k n := by
  refine mz_met (as := [(false, va_rf a0), (false, .int x1), (false, .int x2)]) (plainFor_of_name (by decide)) (mz_c1 (mz_cat_rf _) (mz_c1 rfl (mz_c1 rfl mz_c0))) (Nat.le_of_ble_eq_true rfl) ?_
  intro p e s m args below meth c Y
  exact pf_X12_isSlot_b0 r Y h a0 x1 x2 _ _ hr
theorem dX12_clear_0 : decode cX12_clear 0 = .ok (.iconst 0, 1) := by decide +kernel
theorem dX12_clear_1 : decode cX12_clear 1 = .ok (.istore 4, 2) := by decide +kernel
theorem dX12_clear_3 : decode cX12_clear 3 = .ok (.iload 4, 2) := by decide +kernel
theorem dX12_clear_5 : decode cX12_clear 5 = .ok (.iload_n 3, 1) := by decide +kernel
theorem dX12_clear_6 : decode cX12_clear 6 = .ok (.if_icmp .ge 42, 3) := by decide +kernel
theorem dX12_clear_9 : decode cX12_clear 9 = .ok (.aload_n 0, 1) := by decide +kernel
theorem dX12_clear_10 : decode cX12_clear 10 = .ok (.getfield 106, 3) := by decide +kernel
theorem dX12_clear_13 : decode cX12_clear 13 = .ok (.sipush 900, 3) := by decide +kernel
theorem dX12_clear_16 : decode cX12_clear 16 = .ok (.iload_n 1, 1) := by decide +kernel
theorem dX12_clear_17 : decode cX12_clear 17 = .ok (.imul, 1) := by decide +kernel
theorem dX12_clear_18 : decode cX12_clear 18 = .ok (.iload_n 2, 1) := by decide +kernel
theorem dX12_clear_19 : decode cX12_clear 19 = .ok (.iadd, 1) := by decide +kernel
theorem dX12_clear_20 : decode cX12_clear 20 = .ok (.iload 4, 2) := by decide +kernel
theorem dX12_clear_22 : decode cX12_clear 22 = .ok (.iadd, 1) := by decide +kernel
theorem dX12_clear_23 : decode cX12_clear 23 = .ok (.aload_n 0, 1) := by decide +kernel
theorem dX12_clear_24 : decode cX12_clear 24 = .ok (.getfield 84, 3) := by decide +kernel
theorem dX12_clear_27 : decode cX12_clear 27 = .ok (.iload_n 1, 1) := by decide +kernel
theorem dX12_clear_28 : decode cX12_clear 28 = .ok (.iaload, 1) := by decide +kernel
theorem dX12_clear_29 : decode cX12_clear 29 = .ok (.bipush 8, 2) := by decide +kernel
theorem dX12_clear_31 : decode cX12_clear 31 = .ok (.if_icmp .ne 9, 3) := by decide +kernel
theorem dX12_clear_34 : decode cX12_clear 34 = .ok (.ldc2_w 217, 3) := by decide +kernel
theorem dX12_clear_37 : decode cX12_clear 37 = .ok (.goto 4, 3) := by decide +kernel
theorem dX12_clear_40 : decode cX12_clear 40 = .ok (.lconst 0, 1) := by decide +kernel
theorem dX12_clear_41 : decode cX12_clear 41 = .ok (.lastore, 1) := by decide +kernel
theorem dX12_clear_42 : decode cX12_clear 42 = .ok (.iinc 4 1, 3) := by decide +kernel
theorem dX12_clear_45 : decode cX12_clear 45 = .ok (.goto (-42), 3) := by decide +kernel
theorem dX12_clear_48 : decode cX12_clear 48 = .ok (.return_, 1) := by decide +kernel
def fn_X12_clear_b41 (rc3 : mz_H → (Option Nat) → Int32 → Int32 → Int32 → Int32 → mz_Res Unit) (h : mz_H) (a0 : (Option Nat)) (x1 : Int32) (x2 : Int32) (x3 : Int32) (x4 : Int32) (s0 : (Option Nat)) (s1 : Int32) (s2 : Int64) : mz_Res Unit :=
  mz_op (mz_sJ h s0 s1 s2) fun h =>
  mz_op (some (x4 + 1)) fun v1 =>
  rc3 h a0 x1 x2 x3 v1
set_option maxHeartbeats 4000000 in
set_option maxRecDepth 100000 in
theorem pf_X12_clear_b41 (r : Unit) (Y : mz_Y p g RX12 cX12_clear 5 none "clear" (mz_AF h0) s m args meth c) {rc3 : mz_H → (Option Nat) → Int32 → Int32 → Int32 → Int32 → mz_Res Unit} (hrc3 : ∀ (h : mz_H) (a0 : (Option Nat)) (x1 : Int32) (x2 : Int32) (x3 : Int32) (x4 : Int32) (dc ds : Nat), rc3 h a0 x1 x2 x3 x4 = some (r, hf, dc, ds) → mz_Go l g p e s m args below meth c 0 0 DC DS h0 none hf 5 3 [(0, false, va_rf a0), (1, false, .int x1), (2, false, .int x2), (3, false, .int x3), (4, false, .int x4)] [] h dc ds) (h : mz_H) (a0 : (Option Nat)) (x1 : Int32) (x2 : Int32) (x3 : Int32) (x4 : Int32) (s0 : (Option Nat)) (s1 : Int32) (s2 : Int64) (dc ds : Nat) (hr : fn_X12_clear_b41 rc3 h a0 x1 x2 x3 x4 s0 s1 s2 = some (r, hf, dc, ds)) : mz_Go l g p e s m args below meth c 0 0 DC DS h0 none hf 5 41 [(0, false, va_rf a0), (1, false, .int x1), (2, false, .int x2), (3, false, .int x3), (4, false, .int x4)] [.long s2, .int s1, va_rf s0] h dc ds := by
  unfold fn_X12_clear_b41 at hr
  intro H locs cells slots ls hH hS hl hc hs
  have X := Y.1
  refine mz_last X hH hS dX12_clear_41 hr (fun h H locs hr hH hS => ?_)
  obtain ⟨v1, hv1, hr⟩ := mz_op_some hr
  have hv1 := Option.some.inj hv1
  refine mz_iinc (k := 4) X [(4, false, .int v1), (0, false, va_rf a0), (1, false, .int x1), (2, false, .int x2), (3, false, .int x3)] v1 dX12_clear_42 hl rfl hv1 (by decide) rfl (fun ls hl => ?_)
  refine lv_goto (tgt := 3) X.1 X.2.1 dX12_clear_45 (by decide) ?_
  exact hrc3 h a0 x1 x2 x3 v1 _ _ hr H locs cells slots ls hH hS (mz_sub hl [1, 2, 3, 4, 0] rfl) hc hs
def fn_X12_clear_b3 : Nat → mz_H → (Option Nat) → Int32 → Int32 → Int32 → Int32 → mz_Res Unit
  | 0, _, _, _, _, _, _ => none
  | n + 1, h, a0, x1, x2, x3, x4 =>
    if x3 ≤ x4 then
      mz_ret () h
    else
      mz_op (mz_fR h a0 11 43) fun v1 =>
      mz_op (mz_fR h a0 11 36) fun v2 =>
      mz_op (mz_aI h v2 0 x1) fun v3 =>
      if v3 = 8 then
        fn_X12_clear_b41 (fn_X12_clear_b3 n) h a0 x1 x2 x3 x4 v1 (((900 * x1) + x2) + x4) (-9)
      else
        fn_X12_clear_b41 (fn_X12_clear_b3 n) h a0 x1 x2 x3 x4 v1 (((900 * x1) + x2) + x4) 0
set_option maxHeartbeats 4000000 in
set_option maxRecDepth 100000 in
theorem pf_X12_clear_b3 (r : Unit) (Y : mz_Y p g RX12 cX12_clear 5 none "clear" (mz_AF h0) s m args meth c) : ∀ (n : Nat) (h : mz_H) (a0 : (Option Nat)) (x1 : Int32) (x2 : Int32) (x3 : Int32) (x4 : Int32) (dc ds : Nat), fn_X12_clear_b3 n h a0 x1 x2 x3 x4 = some (r, hf, dc, ds) → mz_Go l g p e s m args below meth c 0 0 DC DS h0 none hf 5 3 [(0, false, va_rf a0), (1, false, .int x1), (2, false, .int x2), (3, false, .int x3), (4, false, .int x4)] [] h dc ds := by
  have X := Y.1
  intro n
  induction n with
  | zero => intro h a0 x1 x2 x3 x4 dc ds hr; simp [fn_X12_clear_b3] at hr
  | succ n ih =>
    intro h a0 x1 x2 x3 x4 dc ds hr
    rw [fn_X12_clear_b3] at hr
    intro H locs cells slots ls hH hS hl hc hs
    refine lv_iload X.1 X.2.1 dX12_clear_3 (mz_at hl 4 rfl) ?_
    refine lv_iload_n X.1 X.2.1 dX12_clear_5 rfl (mz_at hl 3 rfl) ?_
    refine mz_icmp_ge X 48 dX12_clear_6 (by decide) hr (fun hr => ?_) (fun hr => ?_)
    · exact mz_vret Y dX12_clear_48 hH hS hc hs hr
    · refine mz_aload_n X dX12_clear_9 rfl (mz_at hl 0 rfl) ?_
      refine mz_getR X hH fl_RX12_106 dX12_clear_10 hr (fun v1 hr => ?_)
      refine lv_sipush (v := 900) X.1 X.2.1 dX12_clear_13 (by decide) ?_
      refine lv_iload_n X.1 X.2.1 dX12_clear_16 rfl (mz_at hl 1 rfl) ?_
      refine lv_imul X.1 X.2.1 dX12_clear_17 ?_
      refine lv_iload_n X.1 X.2.1 dX12_clear_18 rfl (mz_at hl 2 rfl) ?_
      refine lv_iadd X.1 X.2.1 dX12_clear_19 ?_
      refine lv_iload X.1 X.2.1 dX12_clear_20 (mz_at hl 4 rfl) ?_
      refine lv_iadd X.1 X.2.1 dX12_clear_22 ?_
      refine mz_aload_n X dX12_clear_23 rfl (mz_at hl 0 rfl) ?_
      refine mz_getR X hH fl_RX12_84 dX12_clear_24 hr (fun v2 hr => ?_)
      refine lv_iload_n X.1 X.2.1 dX12_clear_27 rfl (mz_at hl 1 rfl) ?_
      refine mz_iald X hH dX12_clear_28 hr (fun v3 hr => ?_)
      refine lv_bipush (v := 8) X.1 X.2.1 dX12_clear_29 (by decide) ?_
      refine mz_icmp_ne X 40 dX12_clear_31 (by decide) hr (fun hr => ?_) (fun hr => ?_)
      · refine lv_lconst (v := 0) X.1 X.2.1 dX12_clear_40 (by decide) ?_
        exact pf_X12_clear_b41 r Y ih h a0 x1 x2 x3 x4 v1 (((900 * x1) + x2) + x4) 0 _ _ hr H locs cells slots ls hH hS (mz_sub hl [0, 1, 2, 3, 4] rfl) hc hs
      · refine mz_ldc2 (v := (-9)) X (mz_tb 1240 (by decide +kernel) rfl) dX12_clear_34 ?_
        refine lv_goto (tgt := 41) X.1 X.2.1 dX12_clear_37 (by decide) ?_
        exact pf_X12_clear_b41 r Y ih h a0 x1 x2 x3 x4 v1 (((900 * x1) + x2) + x4) (-9) _ _ hr H locs cells slots ls hH hS (mz_sub hl [0, 1, 2, 3, 4] rfl) hc hs
def fn_X12_clear (h : mz_H) (a0 : (Option Nat)) (x1 : Int32) (x2 : Int32) (x3 : Int32) : mz_Res Unit :=
  fn_X12_clear_b3 1001 h a0 x1 x2 x3 0
set_option maxHeartbeats 4000000 in
set_option maxRecDepth 100000 in
theorem pf_X12_clear_b0 (r : Unit) (Y : mz_Y p g RX12 cX12_clear 5 none "clear" (mz_AF h0) s m args meth c) (h : mz_H) (a0 : (Option Nat)) (x1 : Int32) (x2 : Int32) (x3 : Int32) (dc ds : Nat) (hr : fn_X12_clear h a0 x1 x2 x3 = some (r, hf, dc, ds)) : mz_Go l g p e s m args below meth c 0 0 DC DS h0 none hf 5 0 [(0, false, va_rf a0), (1, false, .int x1), (2, false, .int x2), (3, false, .int x3)] [] h dc ds := by
  unfold fn_X12_clear at hr
  intro H locs cells slots ls hH hS hl hc hs
  have X := Y.1
  refine lv_iconst (v := 0) X.1 X.2.1 dX12_clear_0 (by decide) ?_
  refine mz_istore X [(4, false, .int 0), (0, false, va_rf a0), (1, false, .int x1), (2, false, .int x2), (3, false, .int x3)] dX12_clear_1 hl (by decide) rfl (fun ls hl => ?_)
  exact pf_X12_clear_b3 r Y 1001 h a0 x1 x2 x3 0 _ _ hr H locs cells slots ls hH hS (mz_sub hl [1, 2, 3, 4, 0] rfl) hc hs
set_option maxRecDepth 100000 in
theorem ct_X12_clear (l : Launch) (g : mz_G) (h : mz_H) (a0 : (Option Nat)) (x1 : Int32) (x2 : Int32) (x3 : Int32) (r : Unit) (hf : mz_H) (k n : Nat) (hr : fn_X12_clear h a0 x1 x2 x3 = some (r, hf, k, n)) : mz_C l g yX12_clear cX12_clear 5 none 0 0 [va_rf a0, .int x1, .int x2, .int x3] h none hf k n := by
  refine mz_met (as := [(false, va_rf a0), (false, .int x1), (false, .int x2), (false, .int x3)]) (plainFor_of_name (by decide)) (mz_c1 (mz_cat_rf _) (mz_c1 rfl (mz_c1 rfl (mz_c1 rfl mz_c0)))) (Nat.le_of_ble_eq_true rfl) ?_
  intro p e s m args below meth c Y
  exact pf_X12_clear_b0 r Y h a0 x1 x2 x3 _ _ hr
theorem dX12_make_0 : decode cX12_make 0 = .ok (.aload_n 0, 1) := by decide +kernel
theorem dX12_make_1 : decode cX12_make 1 = .ok (.iload_n 1, 1) := by decide +kernel
theorem dX12_make_2 : decode cX12_make 2 = .ok (.invokevirtual 138, 3) := by decide +kernel
theorem dX12_make_5 : decode cX12_make 5 = .ok (.ifCond .ne 5, 3) := by decide +kernel
theorem dX12_make_8 : decode cX12_make 8 = .ok (.iconst (-1), 1) := by decide +kernel
theorem dX12_make_9 : decode cX12_make 9 = .ok (.ireturn, 1) := by decide +kernel
theorem dX12_make_10 : decode cX12_make 10 = .ok (.aload_n 0, 1) := by decide +kernel
theorem dX12_make_11 : decode cX12_make 11 = .ok (.iload_n 1, 1) := by decide +kernel
theorem dX12_make_12 : decode cX12_make 12 = .ok (.invokevirtual 199, 3) := by decide +kernel
theorem dX12_make_15 : decode cX12_make 15 = .ok (.aload_n 0, 1) := by decide +kernel
theorem dX12_make_16 : decode cX12_make 16 = .ok (.iload_n 1, 1) := by decide +kernel
theorem dX12_make_17 : decode cX12_make 17 = .ok (.invokevirtual 208, 3) := by decide +kernel
theorem dX12_make_20 : decode cX12_make 20 = .ok (.ifCond .eq 10, 3) := by decide +kernel
theorem dX12_make_23 : decode cX12_make 23 = .ok (.aload_n 0, 1) := by decide +kernel
theorem dX12_make_24 : decode cX12_make 24 = .ok (.getfield 169, 3) := by decide +kernel
theorem dX12_make_27 : decode cX12_make 27 = .ok (.ifCond .le 6, 3) := by decide +kernel
theorem dX12_make_30 : decode cX12_make 30 = .ok (.bipush (-3), 2) := by decide +kernel
theorem dX12_make_32 : decode cX12_make 32 = .ok (.ireturn, 1) := by decide +kernel
theorem dX12_make_33 : decode cX12_make 33 = .ok (.aload_n 0, 1) := by decide +kernel
theorem dX12_make_34 : decode cX12_make 34 = .ok (.getfield 211, 3) := by decide +kernel
theorem dX12_make_37 : decode cX12_make 37 = .ok (.bipush 60, 2) := by decide +kernel
theorem dX12_make_39 : decode cX12_make 39 = .ok (.if_icmp .eq 12, 3) := by decide +kernel
theorem dX12_make_42 : decode cX12_make 42 = .ok (.aload_n 0, 1) := by decide +kernel
theorem dX12_make_43 : decode cX12_make 43 = .ok (.getfield 181, 3) := by decide +kernel
theorem dX12_make_46 : decode cX12_make 46 = .ok (.bipush 16, 2) := by decide +kernel
theorem dX12_make_48 : decode cX12_make 48 = .ok (.if_icmp .le 6, 3) := by decide +kernel
theorem dX12_make_51 : decode cX12_make 51 = .ok (.bipush (-4), 2) := by decide +kernel
theorem dX12_make_53 : decode cX12_make 53 = .ok (.ireturn, 1) := by decide +kernel
theorem dX12_make_54 : decode cX12_make 54 = .ok (.iload_n 1, 1) := by decide +kernel
theorem dX12_make_55 : decode cX12_make 55 = .ok (.istore_n 2, 1) := by decide +kernel
theorem dX12_make_56 : decode cX12_make 56 = .ok (.iload_n 2, 1) := by decide +kernel
theorem dX12_make_57 : decode cX12_make 57 = .ok (.bipush (-9), 2) := by decide +kernel
theorem dX12_make_59 : decode cX12_make 59 = .ok (.if_icmp .eq 20, 3) := by decide +kernel
theorem dX12_make_62 : decode cX12_make 62 = .ok (.aload_n 0, 1) := by decide +kernel
theorem dX12_make_63 : decode cX12_make 63 = .ok (.getfield 44, 3) := by decide +kernel
theorem dX12_make_66 : decode cX12_make 66 = .ok (.iload_n 2, 1) := by decide +kernel
theorem dX12_make_67 : decode cX12_make 67 = .ok (.iconst 1, 1) := by decide +kernel
theorem dX12_make_68 : decode cX12_make 68 = .ok (.bastore, 1) := by decide +kernel
theorem dX12_make_69 : decode cX12_make 69 = .ok (.aload_n 0, 1) := by decide +kernel
theorem dX12_make_70 : decode cX12_make 70 = .ok (.getfield 13, 3) := by decide +kernel
theorem dX12_make_73 : decode cX12_make 73 = .ok (.iload_n 2, 1) := by decide +kernel
theorem dX12_make_74 : decode cX12_make 74 = .ok (.iaload, 1) := by decide +kernel
theorem dX12_make_75 : decode cX12_make 75 = .ok (.istore_n 2, 1) := by decide +kernel
theorem dX12_make_76 : decode cX12_make 76 = .ok (.goto (-20), 3) := by decide +kernel
theorem dX12_make_79 : decode cX12_make 79 = .ok (.aload_n 0, 1) := by decide +kernel
theorem dX12_make_80 : decode cX12_make 80 = .ok (.getfield 75, 3) := by decide +kernel
theorem dX12_make_83 : decode cX12_make 83 = .ok (.aload_n 0, 1) := by decide +kernel
theorem dX12_make_84 : decode cX12_make 84 = .ok (.getfield 211, 3) := by decide +kernel
theorem dX12_make_87 : decode cX12_make 87 = .ok (.iload_n 1, 1) := by decide +kernel
theorem dX12_make_88 : decode cX12_make 88 = .ok (.iastore, 1) := by decide +kernel
theorem dX12_make_89 : decode cX12_make 89 = .ok (.aload_n 0, 1) := by decide +kernel
theorem dX12_make_90 : decode cX12_make 90 = .ok (.getfield 78, 3) := by decide +kernel
theorem dX12_make_93 : decode cX12_make 93 = .ok (.aload_n 0, 1) := by decide +kernel
theorem dX12_make_94 : decode cX12_make 94 = .ok (.getfield 211, 3) := by decide +kernel
theorem dX12_make_97 : decode cX12_make 97 = .ok (.aload_n 0, 1) := by decide +kernel
theorem dX12_make_98 : decode cX12_make 98 = .ok (.getfield 181, 3) := by decide +kernel
theorem dX12_make_101 : decode cX12_make 101 = .ok (.iastore, 1) := by decide +kernel
theorem dX12_make_102 : decode cX12_make 102 = .ok (.iconst 0, 1) := by decide +kernel
theorem dX12_make_103 : decode cX12_make 103 = .ok (.istore_n 2, 1) := by decide +kernel
theorem dX12_make_104 : decode cX12_make 104 = .ok (.iload_n 2, 1) := by decide +kernel
theorem dX12_make_105 : decode cX12_make 105 = .ok (.aload_n 0, 1) := by decide +kernel
theorem dX12_make_106 : decode cX12_make 106 = .ok (.getfield 181, 3) := by decide +kernel
theorem dX12_make_109 : decode cX12_make 109 = .ok (.if_icmp .ge 119, 3) := by decide +kernel
theorem dX12_make_112 : decode cX12_make 112 = .ok (.bipush 16, 2) := by decide +kernel
theorem dX12_make_114 : decode cX12_make 114 = .ok (.aload_n 0, 1) := by decide +kernel
theorem dX12_make_115 : decode cX12_make 115 = .ok (.getfield 211, 3) := by decide +kernel
theorem dX12_make_118 : decode cX12_make 118 = .ok (.imul, 1) := by decide +kernel
theorem dX12_make_119 : decode cX12_make 119 = .ok (.iload_n 2, 1) := by decide +kernel
theorem dX12_make_120 : decode cX12_make 120 = .ok (.iadd, 1) := by decide +kernel
theorem dX12_make_121 : decode cX12_make 121 = .ok (.istore_n 3, 1) := by decide +kernel
theorem dX12_make_122 : decode cX12_make 122 = .ok (.aload_n 0, 1) := by decide +kernel
theorem dX12_make_123 : decode cX12_make 123 = .ok (.getfield 81, 3) := by decide +kernel
theorem dX12_make_126 : decode cX12_make 126 = .ok (.iload_n 3, 1) := by decide +kernel
theorem dX12_make_127 : decode cX12_make 127 = .ok (.aload_n 0, 1) := by decide +kernel
theorem dX12_make_128 : decode cX12_make 128 = .ok (.getfield 59, 3) := by decide +kernel
theorem dX12_make_131 : decode cX12_make 131 = .ok (.bipush 7, 2) := by decide +kernel
theorem dX12_make_133 : decode cX12_make 133 = .ok (.iload_n 2, 1) := by decide +kernel
theorem dX12_make_134 : decode cX12_make 134 = .ok (.imul, 1) := by decide +kernel
theorem dX12_make_135 : decode cX12_make 135 = .ok (.iaload, 1) := by decide +kernel
theorem dX12_make_136 : decode cX12_make 136 = .ok (.iastore, 1) := by decide +kernel
theorem dX12_make_137 : decode cX12_make 137 = .ok (.aload_n 0, 1) := by decide +kernel
theorem dX12_make_138 : decode cX12_make 138 = .ok (.getfield 84, 3) := by decide +kernel
theorem dX12_make_141 : decode cX12_make 141 = .ok (.iload_n 3, 1) := by decide +kernel
theorem dX12_make_142 : decode cX12_make 142 = .ok (.aload_n 0, 1) := by decide +kernel
theorem dX12_make_143 : decode cX12_make 143 = .ok (.getfield 59, 3) := by decide +kernel
theorem dX12_make_146 : decode cX12_make 146 = .ok (.bipush 7, 2) := by decide +kernel
theorem dX12_make_148 : decode cX12_make 148 = .ok (.iload_n 2, 1) := by decide +kernel
theorem dX12_make_149 : decode cX12_make 149 = .ok (.imul, 1) := by decide +kernel
theorem dX12_make_150 : decode cX12_make 150 = .ok (.iconst 3, 1) := by decide +kernel
theorem dX12_make_151 : decode cX12_make 151 = .ok (.iadd, 1) := by decide +kernel
theorem dX12_make_152 : decode cX12_make 152 = .ok (.iaload, 1) := by decide +kernel
theorem dX12_make_153 : decode cX12_make 153 = .ok (.iastore, 1) := by decide +kernel
theorem dX12_make_154 : decode cX12_make 154 = .ok (.aload_n 0, 1) := by decide +kernel
theorem dX12_make_155 : decode cX12_make 155 = .ok (.getfield 87, 3) := by decide +kernel
theorem dX12_make_158 : decode cX12_make 158 = .ok (.iload_n 3, 1) := by decide +kernel
theorem dX12_make_159 : decode cX12_make 159 = .ok (.aload_n 0, 1) := by decide +kernel
theorem dX12_make_160 : decode cX12_make 160 = .ok (.getfield 59, 3) := by decide +kernel
theorem dX12_make_163 : decode cX12_make 163 = .ok (.bipush 7, 2) := by decide +kernel
theorem dX12_make_165 : decode cX12_make 165 = .ok (.iload_n 2, 1) := by decide +kernel
theorem dX12_make_166 : decode cX12_make 166 = .ok (.imul, 1) := by decide +kernel
theorem dX12_make_167 : decode cX12_make 167 = .ok (.iconst 4, 1) := by decide +kernel
theorem dX12_make_168 : decode cX12_make 168 = .ok (.iadd, 1) := by decide +kernel
theorem dX12_make_169 : decode cX12_make 169 = .ok (.iaload, 1) := by decide +kernel
theorem dX12_make_170 : decode cX12_make 170 = .ok (.iastore, 1) := by decide +kernel
theorem dX12_make_171 : decode cX12_make 171 = .ok (.aload_n 0, 1) := by decide +kernel
theorem dX12_make_172 : decode cX12_make 172 = .ok (.getfield 90, 3) := by decide +kernel
theorem dX12_make_175 : decode cX12_make 175 = .ok (.iload_n 3, 1) := by decide +kernel
theorem dX12_make_176 : decode cX12_make 176 = .ok (.aload_n 0, 1) := by decide +kernel
theorem dX12_make_177 : decode cX12_make 177 = .ok (.getfield 59, 3) := by decide +kernel
theorem dX12_make_180 : decode cX12_make 180 = .ok (.bipush 7, 2) := by decide +kernel
theorem dX12_make_182 : decode cX12_make 182 = .ok (.iload_n 2, 1) := by decide +kernel
theorem dX12_make_183 : decode cX12_make 183 = .ok (.imul, 1) := by decide +kernel
theorem dX12_make_184 : decode cX12_make 184 = .ok (.iconst 5, 1) := by decide +kernel
theorem dX12_make_185 : decode cX12_make 185 = .ok (.iadd, 1) := by decide +kernel
theorem dX12_make_186 : decode cX12_make 186 = .ok (.iaload, 1) := by decide +kernel
theorem dX12_make_187 : decode cX12_make 187 = .ok (.iastore, 1) := by decide +kernel
theorem dX12_make_188 : decode cX12_make 188 = .ok (.aload_n 0, 1) := by decide +kernel
theorem dX12_make_189 : decode cX12_make 189 = .ok (.getfield 93, 3) := by decide +kernel
theorem dX12_make_192 : decode cX12_make 192 = .ok (.iload_n 3, 1) := by decide +kernel
theorem dX12_make_193 : decode cX12_make 193 = .ok (.aload_n 0, 1) := by decide +kernel
theorem dX12_make_194 : decode cX12_make 194 = .ok (.getfield 87, 3) := by decide +kernel
theorem dX12_make_197 : decode cX12_make 197 = .ok (.iload_n 3, 1) := by decide +kernel
theorem dX12_make_198 : decode cX12_make 198 = .ok (.iaload, 1) := by decide +kernel
theorem dX12_make_199 : decode cX12_make 199 = .ok (.ifCond .ne 7, 3) := by decide +kernel
theorem dX12_make_202 : decode cX12_make 202 = .ok (.iconst 1, 1) := by decide +kernel
theorem dX12_make_203 : decode cX12_make 203 = .ok (.goto 4, 3) := by decide +kernel
theorem dX12_make_206 : decode cX12_make 206 = .ok (.iconst 0, 1) := by decide +kernel
theorem dX12_make_207 : decode cX12_make 207 = .ok (.bastore, 1) := by decide +kernel
theorem dX12_make_208 : decode cX12_make 208 = .ok (.aload_n 0, 1) := by decide +kernel
theorem dX12_make_209 : decode cX12_make 209 = .ok (.getfield 96, 3) := by decide +kernel
theorem dX12_make_212 : decode cX12_make 212 = .ok (.iload_n 3, 1) := by decide +kernel
theorem dX12_make_213 : decode cX12_make 213 = .ok (.iconst 1, 1) := by decide +kernel
theorem dX12_make_214 : decode cX12_make 214 = .ok (.iastore, 1) := by decide +kernel
theorem dX12_make_215 : decode cX12_make 215 = .ok (.aload_n 0, 1) := by decide +kernel
theorem dX12_make_216 : decode cX12_make 216 = .ok (.iload_n 3, 1) := by decide +kernel
theorem dX12_make_217 : decode cX12_make 217 = .ok (.iconst 0, 1) := by decide +kernel
theorem dX12_make_218 : decode cX12_make 218 = .ok (.iconst 1, 1) := by decide +kernel
theorem dX12_make_219 : decode cX12_make 219 = .ok (.invokevirtual 219, 3) := by decide +kernel
theorem dX12_make_222 : decode cX12_make 222 = .ok (.iinc 2 1, 3) := by decide +kernel
theorem dX12_make_225 : decode cX12_make 225 = .ok (.goto (-121), 3) := by decide +kernel
theorem dX12_make_228 : decode cX12_make 228 = .ok (.aload_n 0, 1) := by decide +kernel
theorem dX12_make_229 : decode cX12_make 229 = .ok (.dup, 1) := by decide +kernel
theorem dX12_make_230 : decode cX12_make 230 = .ok (.getfield 211, 3) := by decide +kernel
theorem dX12_make_233 : decode cX12_make 233 = .ok (.iconst 1, 1) := by decide +kernel
theorem dX12_make_234 : decode cX12_make 234 = .ok (.iadd, 1) := by decide +kernel
theorem dX12_make_235 : decode cX12_make 235 = .ok (.putfield 211, 3) := by decide +kernel
theorem dX12_make_238 : decode cX12_make 238 = .ok (.aload_n 0, 1) := by decide +kernel
theorem dX12_make_239 : decode cX12_make 239 = .ok (.getfield 211, 3) := by decide +kernel
theorem dX12_make_242 : decode cX12_make 242 = .ok (.iconst 1, 1) := by decide +kernel
theorem dX12_make_243 : decode cX12_make 243 = .ok (.isub, 1) := by decide +kernel
theorem dX12_make_244 : decode cX12_make 244 = .ok (.ireturn, 1) := by decide +kernel
def fn_X12_make_b207 (rc104 : mz_H → (Option Nat) → Int32 → mz_Res Int32) (h : mz_H) (a0 : (Option Nat)) (x2 : Int32) (x3 : Int32) (s0 : (Option Nat)) (s1 : Int32) (s2 : Int32) : mz_Res Int32 :=
  mz_op (mz_sI h s0 2 s1 (s2 &&& 1)) fun h =>
  mz_op (mz_fR h a0 11 40) fun v1 =>
  mz_op (mz_sI h v1 0 x3 1) fun h =>
  mz_chk (mz_is h a0 11) <| mz_call (fn_X12_clear h a0 x3 0 1) fun _ h =>
  mz_op (some (x2 + 1)) fun v2 =>
  rc104 h a0 v2
set_option maxHeartbeats 4000000 in
set_option maxRecDepth 100000 in
theorem pf_X12_make_b207 (r : Int32) (Y : mz_Y p g RX12 cX12_make 4 (some .int) "make" (mz_AF h0) s m args meth c) {rc104 : mz_H → (Option Nat) → Int32 → mz_Res Int32} (hrc104 : ∀ (h : mz_H) (a0 : (Option Nat)) (x2 : Int32) (dc ds : Nat), rc104 h a0 x2 = some (r, hf, dc, ds) → mz_Go l g p e s m args below meth c 3 75 DC DS h0 (some (Value.int r)) hf 4 104 [(0, false, va_rf a0), (2, false, .int x2)] [] h dc ds) (h : mz_H) (a0 : (Option Nat)) (x2 : Int32) (x3 : Int32) (s0 : (Option Nat)) (s1 : Int32) (s2 : Int32) (dc ds : Nat) (hr : fn_X12_make_b207 rc104 h a0 x2 x3 s0 s1 s2 = some (r, hf, dc, ds)) : mz_Go l g p e s m args below meth c 3 75 DC DS h0 (some (Value.int r)) hf 4 207 [(0, false, va_rf a0), (2, false, .int x2), (3, false, .int x3)] [.int s2, .int s1, va_rf s0] h dc ds := by
  unfold fn_X12_make_b207 at hr
  intro H locs cells slots ls hH hS hl hc hs
  have X := Y.1
  refine mz_zast X hH hS dX12_make_207 hr (fun h H locs hr hH hS => ?_)
  refine mz_aload_n X dX12_make_208 rfl (mz_at hl 0 rfl) ?_
  refine mz_getR X hH fl_RX12_96 dX12_make_209 hr (fun v1 hr => ?_)
  refine lv_iload_n X.1 X.2.1 dX12_make_212 rfl (mz_at hl 2 rfl) ?_
  refine lv_iconst (v := 1) X.1 X.2.1 dX12_make_213 (by decide) ?_
  refine mz_iast X hH hS dX12_make_214 hr (fun h H locs hr hH hS => ?_)
  refine mz_aload_n X dX12_make_215 rfl (mz_at hl 0 rfl) ?_
  refine lv_iload_n X.1 X.2.1 dX12_make_216 rfl (mz_at hl 2 rfl) ?_
  refine lv_iconst (v := 0) X.1 X.2.1 dX12_make_217 (by decide) ?_
  refine lv_iconst (v := 1) X.1 X.2.1 dX12_make_218 (by decide) ?_
  refine mz_kV0 X hH hS hl.1.1 [.int x3, .int 0, .int 1] [] hr (ct_X12_clear l g h a0 x3 0 1) mb_RX12_219 rfl im_X12_clear rfl (Nat.le_of_ble_eq_true rfl) ⟨Nat.le_of_ble_eq_true rfl, Nat.le_of_ble_eq_true rfl⟩ hc hs dX12_make_219 rfl (fun _ h H locs cells slots dc ds hr hH hS hc hs => ?_)
  obtain ⟨v2, hv2, hr⟩ := mz_op_some hr
  have hv2 := Option.some.inj hv2
  refine mz_iinc (k := 1) X [(2, false, .int v2), (0, false, va_rf a0), (3, false, .int x3)] v2 dX12_make_222 hl rfl hv2 (by decide) rfl (fun ls hl => ?_)
  refine lv_goto (tgt := 104) X.1 X.2.1 dX12_make_225 (by decide) ?_
  exact hrc104 h a0 v2 _ _ hr H locs cells slots ls hH hS (mz_sub hl [1, 0] rfl) hc hs
def fn_X12_make_b104 : Nat → mz_H → (Option Nat) → Int32 → mz_Res Int32
  | 0, _, _, _ => none
  | n + 1, h, a0, x2 =>
    mz_op (mz_fI h a0 11 24) fun v1 =>
    if v1 ≤ x2 then
      mz_op (mz_fI h a0 11 32) fun v2 =>
      mz_op (mz_pF h a0 11 32 (Value.int (v2 + 1))) fun h =>
      mz_op (mz_fI h a0 11 32) fun v3 =>
      mz_ret (v3 - 1) h
    else
      mz_op (mz_fI h a0 11 32) fun v4 =>
      mz_op (some ((16 * v4) + x2)) fun v5 =>
      mz_op (mz_fR h a0 11 35) fun v6 =>
      mz_op (mz_fR h a0 11 25) fun v7 =>
      mz_op (mz_aI h v7 0 (7 * x2)) fun v8 =>
      mz_op (mz_sI h v6 0 v5 v8) fun h =>
      mz_op (mz_fR h a0 11 36) fun v9 =>
      mz_op (mz_fR h a0 11 25) fun v10 =>
      mz_op (mz_aI h v10 0 ((7 * x2) + 3)) fun v11 =>
      mz_op (mz_sI h v9 0 v5 v11) fun h =>
      mz_op (mz_fR h a0 11 37) fun v12 =>
      mz_op (mz_fR h a0 11 25) fun v13 =>
      mz_op (mz_aI h v13 0 ((7 * x2) + 4)) fun v14 =>
      mz_op (mz_sI h v12 0 v5 v14) fun h =>
      mz_op (mz_fR h a0 11 38) fun v15 =>
      mz_op (mz_fR h a0 11 25) fun v16 =>
      mz_op (mz_aI h v16 0 ((7 * x2) + 5)) fun v17 =>
      mz_op (mz_sI h v15 0 v5 v17) fun h =>
      mz_op (mz_fR h a0 11 39) fun v18 =>
      mz_op (mz_fR h a0 11 37) fun v19 =>
      mz_op (mz_aI h v19 0 v5) fun v20 =>
      if v20 = 0 then
        fn_X12_make_b207 (fn_X12_make_b104 n) h a0 x2 v5 v18 v5 1
      else
        fn_X12_make_b207 (fn_X12_make_b104 n) h a0 x2 v5 v18 v5 0
set_option maxHeartbeats 4000000 in
set_option maxRecDepth 100000 in
theorem pf_X12_make_b104 (r : Int32) (Y : mz_Y p g RX12 cX12_make 4 (some .int) "make" (mz_AF h0) s m args meth c) : ∀ (n : Nat) (h : mz_H) (a0 : (Option Nat)) (x2 : Int32) (dc ds : Nat), fn_X12_make_b104 n h a0 x2 = some (r, hf, dc, ds) → mz_Go l g p e s m args below meth c 3 75 DC DS h0 (some (Value.int r)) hf 4 104 [(0, false, va_rf a0), (2, false, .int x2)] [] h dc ds := by
  have X := Y.1
  intro n
  induction n with
  | zero => intro h a0 x2 dc ds hr; simp [fn_X12_make_b104] at hr
  | succ n ih =>
    intro h a0 x2 dc ds hr
    rw [fn_X12_make_b104] at hr
    intro H locs cells slots ls hH hS hl hc hs
    refine lv_iload_n X.1 X.2.1 dX12_make_104 rfl (mz_at hl 1 rfl) ?_
    refine mz_aload_n X dX12_make_105 rfl (mz_at hl 0 rfl) ?_
    refine mz_getI X hH fl_RX12_181 dX12_make_106 hr (fun v1 hr => ?_)
    refine mz_icmp_ge X 228 dX12_make_109 (by decide) hr (fun hr => ?_) (fun hr => ?_)
    · refine mz_aload_n X dX12_make_228 rfl (mz_at hl 0 rfl) ?_
      refine mz_dupR X dX12_make_229 ?_
      refine mz_getI X hH fl_RX12_211 dX12_make_230 hr (fun v2 hr => ?_)
      refine lv_iconst (v := 1) X.1 X.2.1 dX12_make_233 (by decide) ?_
      refine lv_iadd X.1 X.2.1 dX12_make_234 ?_
      refine mz_put X hH hS fp_RX12_211 dX12_make_235 rfl rfl hr (fun h H locs hr hH hS => ?_)
      refine mz_aload_n X dX12_make_238 rfl (mz_at hl 0 rfl) ?_
      refine mz_getI X hH fl_RX12_211 dX12_make_239 hr (fun v3 hr => ?_)
      refine lv_iconst (v := 1) X.1 X.2.1 dX12_make_242 (by decide) ?_
      refine lv_isub X.1 X.2.1 dX12_make_243 ?_
      exact mz_iret Y dX12_make_244 hH hS hc hs hr
    · refine lv_bipush (v := 16) X.1 X.2.1 dX12_make_112 (by decide) ?_
      refine mz_aload_n X dX12_make_114 rfl (mz_at hl 0 rfl) ?_
      refine mz_getI X hH fl_RX12_211 dX12_make_115 hr (fun v4 hr => ?_)
      refine lv_imul X.1 X.2.1 dX12_make_118 ?_
      refine lv_iload_n X.1 X.2.1 dX12_make_119 rfl (mz_at hl 1 rfl) ?_
      refine lv_iadd X.1 X.2.1 dX12_make_120 ?_
      refine mz_topi hr (fun v5 hv5 hr => ?_)
      refine mz_istore_n X [(3, false, .int v5), (0, false, va_rf a0), (2, false, .int x2)] dX12_make_121 rfl hl (by decide) rfl (fun ls hl => ?_)
      refine mz_aload_n X dX12_make_122 rfl (mz_at hl 1 rfl) ?_
      refine mz_getR X hH fl_RX12_81 dX12_make_123 hr (fun v6 hr => ?_)
      refine lv_iload_n X.1 X.2.1 dX12_make_126 rfl (mz_at hl 0 rfl) ?_
      refine mz_aload_n X dX12_make_127 rfl (mz_at hl 1 rfl) ?_
      refine mz_getR X hH fl_RX12_59 dX12_make_128 hr (fun v7 hr => ?_)
      refine lv_bipush (v := 7) X.1 X.2.1 dX12_make_131 (by decide) ?_
      refine lv_iload_n X.1 X.2.1 dX12_make_133 rfl (mz_at hl 2 rfl) ?_
      refine lv_imul X.1 X.2.1 dX12_make_134 ?_
      refine mz_iald X hH dX12_make_135 hr (fun v8 hr => ?_)
      refine mz_iast X hH hS dX12_make_136 hr (fun h H locs hr hH hS => ?_)
      refine mz_aload_n X dX12_make_137 rfl (mz_at hl 1 rfl) ?_
      refine mz_getR X hH fl_RX12_84 dX12_make_138 hr (fun v9 hr => ?_)
      refine lv_iload_n X.1 X.2.1 dX12_make_141 rfl (mz_at hl 0 rfl) ?_
      refine mz_aload_n X dX12_make_142 rfl (mz_at hl 1 rfl) ?_
      refine mz_getR X hH fl_RX12_59 dX12_make_143 hr (fun v10 hr => ?_)
      refine lv_bipush (v := 7) X.1 X.2.1 dX12_make_146 (by decide) ?_
      refine lv_iload_n X.1 X.2.1 dX12_make_148 rfl (mz_at hl 2 rfl) ?_
      refine lv_imul X.1 X.2.1 dX12_make_149 ?_
      refine lv_iconst (v := 3) X.1 X.2.1 dX12_make_150 (by decide) ?_
      refine lv_iadd X.1 X.2.1 dX12_make_151 ?_
      refine mz_iald X hH dX12_make_152 hr (fun v11 hr => ?_)
      refine mz_iast X hH hS dX12_make_153 hr (fun h H locs hr hH hS => ?_)
      refine mz_aload_n X dX12_make_154 rfl (mz_at hl 1 rfl) ?_
      refine mz_getR X hH fl_RX12_87 dX12_make_155 hr (fun v12 hr => ?_)
      refine lv_iload_n X.1 X.2.1 dX12_make_158 rfl (mz_at hl 0 rfl) ?_
      refine mz_aload_n X dX12_make_159 rfl (mz_at hl 1 rfl) ?_
      refine mz_getR X hH fl_RX12_59 dX12_make_160 hr (fun v13 hr => ?_)
      refine lv_bipush (v := 7) X.1 X.2.1 dX12_make_163 (by decide) ?_
      refine lv_iload_n X.1 X.2.1 dX12_make_165 rfl (mz_at hl 2 rfl) ?_
      refine lv_imul X.1 X.2.1 dX12_make_166 ?_
      refine lv_iconst (v := 4) X.1 X.2.1 dX12_make_167 (by decide) ?_
      refine lv_iadd X.1 X.2.1 dX12_make_168 ?_
      refine mz_iald X hH dX12_make_169 hr (fun v14 hr => ?_)
      refine mz_iast X hH hS dX12_make_170 hr (fun h H locs hr hH hS => ?_)
      refine mz_aload_n X dX12_make_171 rfl (mz_at hl 1 rfl) ?_
      refine mz_getR X hH fl_RX12_90 dX12_make_172 hr (fun v15 hr => ?_)
      refine lv_iload_n X.1 X.2.1 dX12_make_175 rfl (mz_at hl 0 rfl) ?_
      refine mz_aload_n X dX12_make_176 rfl (mz_at hl 1 rfl) ?_
      refine mz_getR X hH fl_RX12_59 dX12_make_177 hr (fun v16 hr => ?_)
      refine lv_bipush (v := 7) X.1 X.2.1 dX12_make_180 (by decide) ?_
      refine lv_iload_n X.1 X.2.1 dX12_make_182 rfl (mz_at hl 2 rfl) ?_
      refine lv_imul X.1 X.2.1 dX12_make_183 ?_
      refine lv_iconst (v := 5) X.1 X.2.1 dX12_make_184 (by decide) ?_
      refine lv_iadd X.1 X.2.1 dX12_make_185 ?_
      refine mz_iald X hH dX12_make_186 hr (fun v17 hr => ?_)
      refine mz_iast X hH hS dX12_make_187 hr (fun h H locs hr hH hS => ?_)
      refine mz_aload_n X dX12_make_188 rfl (mz_at hl 1 rfl) ?_
      refine mz_getR X hH fl_RX12_93 dX12_make_189 hr (fun v18 hr => ?_)
      refine lv_iload_n X.1 X.2.1 dX12_make_192 rfl (mz_at hl 0 rfl) ?_
      refine mz_aload_n X dX12_make_193 rfl (mz_at hl 1 rfl) ?_
      refine mz_getR X hH fl_RX12_87 dX12_make_194 hr (fun v19 hr => ?_)
      refine lv_iload_n X.1 X.2.1 dX12_make_197 rfl (mz_at hl 0 rfl) ?_
      refine mz_iald X hH dX12_make_198 hr (fun v20 hr => ?_)
      refine mz_if_ne X 206 dX12_make_199 (by decide) hr (fun hr => ?_) (fun hr => ?_)
      · refine lv_iconst (v := 0) X.1 X.2.1 dX12_make_206 (by decide) ?_
        exact pf_X12_make_b207 r Y ih h a0 x2 v5 v18 v5 0 _ _ hr H locs cells slots ls hH hS (mz_sub hl [1, 2, 0] rfl) hc hs
      · refine lv_iconst (v := 1) X.1 X.2.1 dX12_make_202 (by decide) ?_
        refine lv_goto (tgt := 207) X.1 X.2.1 dX12_make_203 (by decide) ?_
        exact pf_X12_make_b207 r Y ih h a0 x2 v5 v18 v5 1 _ _ hr H locs cells slots ls hH hS (mz_sub hl [1, 2, 0] rfl) hc hs
def fn_X12_make_b56 : Nat → mz_H → (Option Nat) → Int32 → Int32 → mz_Res Int32
  | 0, _, _, _, _ => none
  | n + 1, h, a0, x1, x2 =>
    if x2 = (-9) then
      mz_op (mz_fR h a0 11 33) fun v1 =>
      mz_op (mz_fI h a0 11 32) fun v2 =>
      mz_op (mz_sI h v1 0 v2 x1) fun h =>
      mz_op (mz_fR h a0 11 34) fun v3 =>
      mz_op (mz_fI h a0 11 32) fun v4 =>
      mz_op (mz_fI h a0 11 24) fun v5 =>
      mz_op (mz_sI h v3 0 v4 v5) fun h =>
      fn_X12_make_b104 1001 h a0 0
    else
      mz_op (mz_fR h a0 11 14) fun v6 =>
      mz_op (mz_sI h v6 2 x2 (1 &&& 1)) fun h =>
      mz_op (mz_fR h a0 11 4) fun v7 =>
      mz_op (mz_aI h v7 0 x2) fun v8 =>
      fn_X12_make_b56 n h a0 x1 v8
set_option maxHeartbeats 4000000 in
set_option maxRecDepth 100000 in
theorem pf_X12_make_b56 (r : Int32) (Y : mz_Y p g RX12 cX12_make 4 (some .int) "make" (mz_AF h0) s m args meth c) : ∀ (n : Nat) (h : mz_H) (a0 : (Option Nat)) (x1 : Int32) (x2 : Int32) (dc ds : Nat), fn_X12_make_b56 n h a0 x1 x2 = some (r, hf, dc, ds) → mz_Go l g p e s m args below meth c 3 75 DC DS h0 (some (Value.int r)) hf 4 56 [(0, false, va_rf a0), (1, false, .int x1), (2, false, .int x2)] [] h dc ds := by
  have X := Y.1
  intro n
  induction n with
  | zero => intro h a0 x1 x2 dc ds hr; simp [fn_X12_make_b56] at hr
  | succ n ih =>
    intro h a0 x1 x2 dc ds hr
    rw [fn_X12_make_b56] at hr
    intro H locs cells slots ls hH hS hl hc hs
    refine lv_iload_n X.1 X.2.1 dX12_make_56 rfl (mz_at hl 2 rfl) ?_
    refine lv_bipush (v := (-9)) X.1 X.2.1 dX12_make_57 (by decide) ?_
    refine mz_icmp_eq X 79 dX12_make_59 (by decide) hr (fun hr => ?_) (fun hr => ?_)
    · refine mz_aload_n X dX12_make_79 rfl (mz_at hl 0 rfl) ?_
      refine mz_getR X hH fl_RX12_75 dX12_make_80 hr (fun v1 hr => ?_)
      refine mz_aload_n X dX12_make_83 rfl (mz_at hl 0 rfl) ?_
      refine mz_getI X hH fl_RX12_211 dX12_make_84 hr (fun v2 hr => ?_)
      refine lv_iload_n X.1 X.2.1 dX12_make_87 rfl (mz_at hl 1 rfl) ?_
      refine mz_iast X hH hS dX12_make_88 hr (fun h H locs hr hH hS => ?_)
      refine mz_aload_n X dX12_make_89 rfl (mz_at hl 0 rfl) ?_
      refine mz_getR X hH fl_RX12_78 dX12_make_90 hr (fun v3 hr => ?_)
      refine mz_aload_n X dX12_make_93 rfl (mz_at hl 0 rfl) ?_
      refine mz_getI X hH fl_RX12_211 dX12_make_94 hr (fun v4 hr => ?_)
      refine mz_aload_n X dX12_make_97 rfl (mz_at hl 0 rfl) ?_
      refine mz_getI X hH fl_RX12_181 dX12_make_98 hr (fun v5 hr => ?_)
      refine mz_iast X hH hS dX12_make_101 hr (fun h H locs hr hH hS => ?_)
      refine lv_iconst (v := 0) X.1 X.2.1 dX12_make_102 (by decide) ?_
      refine mz_istore_n X [(2, false, .int 0), (0, false, va_rf a0), (1, false, .int x1)] dX12_make_103 rfl hl (by decide) rfl (fun ls hl => ?_)
      exact pf_X12_make_b104 r Y 1001 h a0 0 _ _ hr H locs cells slots ls hH hS (mz_sub hl [1, 0] rfl) hc hs
    · refine mz_aload_n X dX12_make_62 rfl (mz_at hl 0 rfl) ?_
      refine mz_getR X hH fl_RX12_44 dX12_make_63 hr (fun v6 hr => ?_)
      refine lv_iload_n X.1 X.2.1 dX12_make_66 rfl (mz_at hl 2 rfl) ?_
      refine lv_iconst (v := 1) X.1 X.2.1 dX12_make_67 (by decide) ?_
      refine mz_zast X hH hS dX12_make_68 hr (fun h H locs hr hH hS => ?_)
      refine mz_aload_n X dX12_make_69 rfl (mz_at hl 0 rfl) ?_
      refine mz_getR X hH fl_RX12_13 dX12_make_70 hr (fun v7 hr => ?_)
      refine lv_iload_n X.1 X.2.1 dX12_make_73 rfl (mz_at hl 2 rfl) ?_
      refine mz_iald X hH dX12_make_74 hr (fun v8 hr => ?_)
      refine mz_istore_n X [(2, false, .int v8), (0, false, va_rf a0), (1, false, .int x1)] dX12_make_75 rfl hl (by decide) rfl (fun ls hl => ?_)
      refine lv_goto (tgt := 56) X.1 X.2.1 dX12_make_76 (by decide) ?_
      exact ih h a0 x1 v8 _ _ hr H locs cells slots ls hH hS (mz_sub hl [1, 2, 0] rfl) hc hs
def fn_X12_make (h : mz_H) (a0 : (Option Nat)) (x1 : Int32) : mz_Res Int32 :=
  mz_chk (mz_is h a0 11) <| mz_call (fn_X12_isClass h a0 x1) fun v1 h =>
  if v1 = 0 then
    mz_ret (-1) h
  else
    mz_chk (mz_is h a0 11) <| mz_call (fn_X12_makeTable h a0 x1) fun _ h =>
    mz_chk (mz_is h a0 11) <| mz_call (fn_X12_isConcrete h a0 x1) fun v2 h =>
    if v2 = 0 then
      mz_ret (-3) h
    else
      mz_op (mz_fI h a0 11 20) fun v3 =>
      if v3 ≤ 0 then
        mz_op (mz_fI h a0 11 32) fun v4 =>
        if v4 = 60 then
          mz_ret (-4) h
        else
          mz_op (mz_fI h a0 11 24) fun v5 =>
          if v5 ≤ 16 then
            fn_X12_make_b56 1001 h a0 x1 x1
          else
            mz_ret (-4) h
      else
        mz_ret (-3) h
set_option maxHeartbeats 4000000 in
set_option maxRecDepth 100000 in
theorem pf_X12_make_b0 (r : Int32) (Y : mz_Y p g RX12 cX12_make 4 (some .int) "make" (mz_AF h0) s m args meth c) (h : mz_H) (a0 : (Option Nat)) (x1 : Int32) (dc ds : Nat) (hr : fn_X12_make h a0 x1 = some (r, hf, dc, ds)) : mz_Go l g p e s m args below meth c 3 75 DC DS h0 (some (Value.int r)) hf 4 0 [(0, false, va_rf a0), (1, false, .int x1)] [] h dc ds := by
  unfold fn_X12_make at hr
  intro H locs cells slots ls hH hS hl hc hs
  have X := Y.1
  refine mz_aload_n X dX12_make_0 rfl (mz_at hl 0 rfl) ?_
  refine lv_iload_n X.1 X.2.1 dX12_make_1 rfl (mz_at hl 1 rfl) ?_
  refine mz_kV Value.int X hH hS hl.1.1 [.int x1] [] hr (ct_X12_isClass l g h a0 x1) mb_RX12_138 rfl im_X12_isClass rfl (Nat.le_of_ble_eq_true rfl) ⟨Nat.le_of_ble_eq_true rfl, Nat.le_of_ble_eq_true rfl⟩ hc hs dX12_make_2 rfl (fun v1 h H locs cells slots dc ds hr hH hS hc hs => ?_)
  refine mz_if_ne X 10 dX12_make_5 (by decide) hr (fun hr => ?_) (fun hr => ?_)
  · refine mz_aload_n X dX12_make_10 rfl (mz_at hl 0 rfl) ?_
    refine lv_iload_n X.1 X.2.1 dX12_make_11 rfl (mz_at hl 1 rfl) ?_
    refine mz_kV0 X hH hS hl.1.1 [.int x1] [] hr (ct_X12_makeTable l g h a0 x1) mb_RX12_199 rfl im_X12_makeTable rfl (Nat.le_of_ble_eq_true rfl) ⟨Nat.le_of_ble_eq_true rfl, Nat.le_of_ble_eq_true rfl⟩ hc hs dX12_make_12 rfl (fun _ h H locs cells slots dc ds hr hH hS hc hs => ?_)
    refine mz_aload_n X dX12_make_15 rfl (mz_at hl 0 rfl) ?_
    refine lv_iload_n X.1 X.2.1 dX12_make_16 rfl (mz_at hl 1 rfl) ?_
    refine mz_kV Value.int X hH hS hl.1.1 [.int x1] [] hr (ct_X12_isConcrete l g h a0 x1) mb_RX12_208 rfl im_X12_isConcrete rfl (Nat.le_of_ble_eq_true rfl) ⟨Nat.le_of_ble_eq_true rfl, Nat.le_of_ble_eq_true rfl⟩ hc hs dX12_make_17 rfl (fun v2 h H locs cells slots dc ds hr hH hS hc hs => ?_)
    refine mz_if_eq X 30 dX12_make_20 (by decide) hr (fun hr => ?_) (fun hr => ?_)
    · refine lv_bipush (v := (-3)) X.1 X.2.1 dX12_make_30 (by decide) ?_
      exact mz_iret Y dX12_make_32 hH hS hc hs hr
    · refine mz_aload_n X dX12_make_23 rfl (mz_at hl 0 rfl) ?_
      refine mz_getI X hH fl_RX12_169 dX12_make_24 hr (fun v3 hr => ?_)
      refine mz_if_le X 33 dX12_make_27 (by decide) hr (fun hr => ?_) (fun hr => ?_)
      · refine mz_aload_n X dX12_make_33 rfl (mz_at hl 0 rfl) ?_
        refine mz_getI X hH fl_RX12_211 dX12_make_34 hr (fun v4 hr => ?_)
        refine lv_bipush (v := 60) X.1 X.2.1 dX12_make_37 (by decide) ?_
        refine mz_icmp_eq X 51 dX12_make_39 (by decide) hr (fun hr => ?_) (fun hr => ?_)
        · refine lv_bipush (v := (-4)) X.1 X.2.1 dX12_make_51 (by decide) ?_
          exact mz_iret Y dX12_make_53 hH hS hc hs hr
        · refine mz_aload_n X dX12_make_42 rfl (mz_at hl 0 rfl) ?_
          refine mz_getI X hH fl_RX12_181 dX12_make_43 hr (fun v5 hr => ?_)
          refine lv_bipush (v := 16) X.1 X.2.1 dX12_make_46 (by decide) ?_
          refine mz_icmp_le X 54 dX12_make_48 (by decide) hr (fun hr => ?_) (fun hr => ?_)
          · refine lv_iload_n X.1 X.2.1 dX12_make_54 rfl (mz_at hl 1 rfl) ?_
            refine mz_istore_n X [(2, false, .int x1), (0, false, va_rf a0), (1, false, .int x1)] dX12_make_55 rfl hl (by decide) rfl (fun ls hl => ?_)
            exact pf_X12_make_b56 r Y 1001 h a0 x1 x1 _ _ hr H locs cells slots ls hH hS (mz_sub hl [1, 2, 0] rfl) hc hs
          · refine lv_bipush (v := (-4)) X.1 X.2.1 dX12_make_51 (by decide) ?_
            exact mz_iret Y dX12_make_53 hH hS hc hs hr
      · refine lv_bipush (v := (-3)) X.1 X.2.1 dX12_make_30 (by decide) ?_
        exact mz_iret Y dX12_make_32 hH hS hc hs hr
  · refine lv_iconst (v := (-1)) X.1 X.2.1 dX12_make_8 (by decide) ?_
    exact mz_iret Y dX12_make_9 hH hS hc hs hr
set_option maxRecDepth 100000 in
theorem ct_X12_make (l : Launch) (g : mz_G) (h : mz_H) (a0 : (Option Nat)) (x1 : Int32) (r : Int32) (hf : mz_H) (k n : Nat) (hr : fn_X12_make h a0 x1 = some (r, hf, k, n)) : mz_C l g yX12_make cX12_make 4 (some .int) 3 75 [va_rf a0, .int x1] h (some (Value.int r)) hf k n := by
  refine mz_met (as := [(false, va_rf a0), (false, .int x1)]) (plainFor_of_name (by decide)) (mz_c1 (mz_cat_rf _) (mz_c1 rfl mz_c0)) (Nat.le_of_ble_eq_true rfl) ?_
  intro p e s m args below meth c Y
  exact pf_X12_make_b0 r Y h a0 x1 _ _ hr
theorem dX12_of_0 : decode cX12_of 0 = .ok (.aload_n 0, 1) := by decide +kernel
theorem dX12_of_1 : decode cX12_of 1 = .ok (.iload_n 1, 1) := by decide +kernel
theorem dX12_of_2 : decode cX12_of 2 = .ok (.invokevirtual 214, 3) := by decide +kernel
theorem dX12_of_5 : decode cX12_of 5 = .ok (.ifCond .ne 5, 3) := by decide +kernel
theorem dX12_of_8 : decode cX12_of 8 = .ok (.iconst (-1), 1) := by decide +kernel
theorem dX12_of_9 : decode cX12_of 9 = .ok (.ireturn, 1) := by decide +kernel
theorem dX12_of_10 : decode cX12_of 10 = .ok (.iload_n 2, 1) := by decide +kernel
theorem dX12_of_11 : decode cX12_of 11 = .ok (.ifCond .ne 12, 3) := by decide +kernel
theorem dX12_of_14 : decode cX12_of 14 = .ok (.aload_n 0, 1) := by decide +kernel
theorem dX12_of_15 : decode cX12_of 15 = .ok (.getfield 75, 3) := by decide +kernel
theorem dX12_of_18 : decode cX12_of 18 = .ok (.iload_n 1, 1) := by decide +kernel
theorem dX12_of_19 : decode cX12_of 19 = .ok (.iaload, 1) := by decide +kernel
theorem dX12_of_20 : decode cX12_of 20 = .ok (.goto 19, 3) := by decide +kernel
theorem dX12_of_23 : decode cX12_of 23 = .ok (.iload_n 2, 1) := by decide +kernel
theorem dX12_of_24 : decode cX12_of 24 = .ok (.iconst 1, 1) := by decide +kernel
theorem dX12_of_25 : decode cX12_of 25 = .ok (.if_icmp .ne 12, 3) := by decide +kernel
theorem dX12_of_28 : decode cX12_of 28 = .ok (.aload_n 0, 1) := by decide +kernel
theorem dX12_of_29 : decode cX12_of 29 = .ok (.getfield 78, 3) := by decide +kernel
theorem dX12_of_32 : decode cX12_of 32 = .ok (.iload_n 1, 1) := by decide +kernel
theorem dX12_of_33 : decode cX12_of 33 = .ok (.iaload, 1) := by decide +kernel
theorem dX12_of_34 : decode cX12_of 34 = .ok (.goto 5, 3) := by decide +kernel
theorem dX12_of_37 : decode cX12_of 37 = .ok (.bipush (-2), 2) := by decide +kernel
theorem dX12_of_39 : decode cX12_of 39 = .ok (.ireturn, 1) := by decide +kernel
def fn_X12_of (h : mz_H) (a0 : (Option Nat)) (x1 : Int32) (x2 : Int32) : mz_Res Int32 :=
  mz_chk (mz_is h a0 11) <| mz_call (fn_X12_isObject h a0 x1) fun v1 h =>
  if v1 = 0 then
    mz_ret (-1) h
  else
    if x2 = 0 then
      mz_op (mz_fR h a0 11 33) fun v4 =>
      mz_op (mz_aI h v4 0 x1) fun v5 =>
      mz_ret v5 h
    else
      if x2 = 1 then
        mz_op (mz_fR h a0 11 34) fun v2 =>
        mz_op (mz_aI h v2 0 x1) fun v3 =>
        mz_ret v3 h
      else
        mz_ret (-2) h
set_option maxHeartbeats 4000000 in
set_option maxRecDepth 100000 in
theorem pf_X12_of_b0 (r : Int32) (Y : mz_Y p g RX12 cX12_of 3 (some .int) "of" (mz_AF h0) s m args meth c) (h : mz_H) (a0 : (Option Nat)) (x1 : Int32) (x2 : Int32) (dc ds : Nat) (hr : fn_X12_of h a0 x1 x2 = some (r, hf, dc, ds)) : mz_Go l g p e s m args below meth c 1 21 DC DS h0 (some (Value.int r)) hf 3 0 [(0, false, va_rf a0), (1, false, .int x1), (2, false, .int x2)] [] h dc ds := by
  unfold fn_X12_of at hr
  intro H locs cells slots ls hH hS hl hc hs
  have X := Y.1
  refine mz_aload_n X dX12_of_0 rfl (mz_at hl 0 rfl) ?_
  refine lv_iload_n X.1 X.2.1 dX12_of_1 rfl (mz_at hl 1 rfl) ?_
  refine mz_kV Value.int X hH hS hl.1.1 [.int x1] [] hr (ct_X12_isObject l g h a0 x1) mb_RX12_214 rfl im_X12_isObject rfl (Nat.le_of_ble_eq_true rfl) ⟨Nat.le_of_ble_eq_true rfl, Nat.le_of_ble_eq_true rfl⟩ hc hs dX12_of_2 rfl (fun v1 h H locs cells slots dc ds hr hH hS hc hs => ?_)
  refine mz_if_ne X 10 dX12_of_5 (by decide) hr (fun hr => ?_) (fun hr => ?_)
  · refine lv_iload_n X.1 X.2.1 dX12_of_10 rfl (mz_at hl 2 rfl) ?_
    refine mz_if_ne X 23 dX12_of_11 (by decide) hr (fun hr => ?_) (fun hr => ?_)
    · refine lv_iload_n X.1 X.2.1 dX12_of_23 rfl (mz_at hl 2 rfl) ?_
      refine lv_iconst (v := 1) X.1 X.2.1 dX12_of_24 (by decide) ?_
      refine mz_icmp_ne X 37 dX12_of_25 (by decide) hr (fun hr => ?_) (fun hr => ?_)
      · refine lv_bipush (v := (-2)) X.1 X.2.1 dX12_of_37 (by decide) ?_
        exact mz_iret Y dX12_of_39 hH hS hc hs hr
      · refine mz_aload_n X dX12_of_28 rfl (mz_at hl 0 rfl) ?_
        refine mz_getR X hH fl_RX12_78 dX12_of_29 hr (fun v2 hr => ?_)
        refine lv_iload_n X.1 X.2.1 dX12_of_32 rfl (mz_at hl 1 rfl) ?_
        refine mz_iald X hH dX12_of_33 hr (fun v3 hr => ?_)
        refine lv_goto (tgt := 39) X.1 X.2.1 dX12_of_34 (by decide) ?_
        exact mz_iret Y dX12_of_39 hH hS hc hs hr
    · refine mz_aload_n X dX12_of_14 rfl (mz_at hl 0 rfl) ?_
      refine mz_getR X hH fl_RX12_75 dX12_of_15 hr (fun v4 hr => ?_)
      refine lv_iload_n X.1 X.2.1 dX12_of_18 rfl (mz_at hl 1 rfl) ?_
      refine mz_iald X hH dX12_of_19 hr (fun v5 hr => ?_)
      refine lv_goto (tgt := 39) X.1 X.2.1 dX12_of_20 (by decide) ?_
      exact mz_iret Y dX12_of_39 hH hS hc hs hr
  · refine lv_iconst (v := (-1)) X.1 X.2.1 dX12_of_8 (by decide) ?_
    exact mz_iret Y dX12_of_9 hH hS hc hs hr
set_option maxRecDepth 100000 in
theorem ct_X12_of (l : Launch) (g : mz_G) (h : mz_H) (a0 : (Option Nat)) (x1 : Int32) (x2 : Int32) (r : Int32) (hf : mz_H) (k n : Nat) (hr : fn_X12_of h a0 x1 x2 = some (r, hf, k, n)) : mz_C l g yX12_of cX12_of 3 (some .int) 1 21 [va_rf a0, .int x1, .int x2] h (some (Value.int r)) hf k n := by
  refine mz_met (as := [(false, va_rf a0), (false, .int x1), (false, .int x2)]) (plainFor_of_name (by decide)) (mz_c1 (mz_cat_rf _) (mz_c1 rfl (mz_c1 rfl mz_c0))) (Nat.le_of_ble_eq_true rfl) ?_
  intro p e s m args below meth c Y
  exact pf_X12_of_b0 r Y h a0 x1 x2 _ _ hr
theorem dX12_slotOf_0 : decode cX12_slotOf 0 = .ok (.bipush (-9), 2) := by decide +kernel
theorem dX12_slotOf_2 : decode cX12_slotOf 2 = .ok (.istore_n 3, 1) := by decide +kernel
theorem dX12_slotOf_3 : decode cX12_slotOf 3 = .ok (.iconst 0, 1) := by decide +kernel
theorem dX12_slotOf_4 : decode cX12_slotOf 4 = .ok (.istore 4, 2) := by decide +kernel
theorem dX12_slotOf_6 : decode cX12_slotOf 6 = .ok (.iload 4, 2) := by decide +kernel
theorem dX12_slotOf_8 : decode cX12_slotOf 8 = .ok (.aload_n 0, 1) := by decide +kernel
theorem dX12_slotOf_9 : decode cX12_slotOf 9 = .ok (.getfield 78, 3) := by decide +kernel
theorem dX12_slotOf_12 : decode cX12_slotOf 12 = .ok (.iload_n 1, 1) := by decide +kernel
theorem dX12_slotOf_13 : decode cX12_slotOf 13 = .ok (.iaload, 1) := by decide +kernel
theorem dX12_slotOf_14 : decode cX12_slotOf 14 = .ok (.if_icmp .ge 32, 3) := by decide +kernel
theorem dX12_slotOf_17 : decode cX12_slotOf 17 = .ok (.aload_n 0, 1) := by decide +kernel
theorem dX12_slotOf_18 : decode cX12_slotOf 18 = .ok (.getfield 81, 3) := by decide +kernel
theorem dX12_slotOf_21 : decode cX12_slotOf 21 = .ok (.bipush 16, 2) := by decide +kernel
theorem dX12_slotOf_23 : decode cX12_slotOf 23 = .ok (.iload_n 1, 1) := by decide +kernel
theorem dX12_slotOf_24 : decode cX12_slotOf 24 = .ok (.imul, 1) := by decide +kernel
theorem dX12_slotOf_25 : decode cX12_slotOf 25 = .ok (.iload 4, 2) := by decide +kernel
theorem dX12_slotOf_27 : decode cX12_slotOf 27 = .ok (.iadd, 1) := by decide +kernel
theorem dX12_slotOf_28 : decode cX12_slotOf 28 = .ok (.iaload, 1) := by decide +kernel
theorem dX12_slotOf_29 : decode cX12_slotOf 29 = .ok (.iload_n 2, 1) := by decide +kernel
theorem dX12_slotOf_30 : decode cX12_slotOf 30 = .ok (.if_icmp .ne 8, 3) := by decide +kernel
theorem dX12_slotOf_33 : decode cX12_slotOf 33 = .ok (.iload 4, 2) := by decide +kernel
theorem dX12_slotOf_35 : decode cX12_slotOf 35 = .ok (.goto 4, 3) := by decide +kernel
theorem dX12_slotOf_38 : decode cX12_slotOf 38 = .ok (.iload_n 3, 1) := by decide +kernel
theorem dX12_slotOf_39 : decode cX12_slotOf 39 = .ok (.istore_n 3, 1) := by decide +kernel
theorem dX12_slotOf_40 : decode cX12_slotOf 40 = .ok (.iinc 4 1, 3) := by decide +kernel
theorem dX12_slotOf_43 : decode cX12_slotOf 43 = .ok (.goto (-37), 3) := by decide +kernel
theorem dX12_slotOf_46 : decode cX12_slotOf 46 = .ok (.iload_n 3, 1) := by decide +kernel
theorem dX12_slotOf_47 : decode cX12_slotOf 47 = .ok (.ireturn, 1) := by decide +kernel
def fn_X12_slotOf_b39 (rc6 : mz_H → (Option Nat) → Int32 → Int32 → Int32 → Int32 → mz_Res Int32) (h : mz_H) (a0 : (Option Nat)) (x1 : Int32) (x2 : Int32) (x4 : Int32) (s0 : Int32) : mz_Res Int32 :=
  mz_op (some (x4 + 1)) fun v1 =>
  rc6 h a0 x1 x2 s0 v1
set_option maxHeartbeats 4000000 in
set_option maxRecDepth 100000 in
theorem pf_X12_slotOf_b39 (r : Int32) (Y : mz_Y p g RX12 cX12_slotOf 5 (some .int) "slotOf" (mz_AF h0) s m args meth c) {rc6 : mz_H → (Option Nat) → Int32 → Int32 → Int32 → Int32 → mz_Res Int32} (hrc6 : ∀ (h : mz_H) (a0 : (Option Nat)) (x1 : Int32) (x2 : Int32) (x3 : Int32) (x4 : Int32) (dc ds : Nat), rc6 h a0 x1 x2 x3 x4 = some (r, hf, dc, ds) → mz_Go l g p e s m args below meth c 0 0 DC DS h0 (some (Value.int r)) hf 5 6 [(0, false, va_rf a0), (1, false, .int x1), (2, false, .int x2), (3, false, .int x3), (4, false, .int x4)] [] h dc ds) (h : mz_H) (a0 : (Option Nat)) (x1 : Int32) (x2 : Int32) (x4 : Int32) (s0 : Int32) (dc ds : Nat) (hr : fn_X12_slotOf_b39 rc6 h a0 x1 x2 x4 s0 = some (r, hf, dc, ds)) : mz_Go l g p e s m args below meth c 0 0 DC DS h0 (some (Value.int r)) hf 5 39 [(0, false, va_rf a0), (1, false, .int x1), (2, false, .int x2), (4, false, .int x4)] [.int s0] h dc ds := by
  unfold fn_X12_slotOf_b39 at hr
  intro H locs cells slots ls hH hS hl hc hs
  have X := Y.1
  refine mz_istore_n X [(3, false, .int s0), (0, false, va_rf a0), (1, false, .int x1), (2, false, .int x2), (4, false, .int x4)] dX12_slotOf_39 rfl hl (by decide) rfl (fun ls hl => ?_)
  obtain ⟨v1, hv1, hr⟩ := mz_op_some hr
  have hv1 := Option.some.inj hv1
  refine mz_iinc (k := 4) X [(4, false, .int v1), (3, false, .int s0), (0, false, va_rf a0), (1, false, .int x1), (2, false, .int x2)] v1 dX12_slotOf_40 hl rfl hv1 (by decide) rfl (fun ls hl => ?_)
  refine lv_goto (tgt := 6) X.1 X.2.1 dX12_slotOf_43 (by decide) ?_
  exact hrc6 h a0 x1 x2 s0 v1 _ _ hr H locs cells slots ls hH hS (mz_sub hl [2, 3, 4, 1, 0] rfl) hc hs
def fn_X12_slotOf_b6 : Nat → mz_H → (Option Nat) → Int32 → Int32 → Int32 → Int32 → mz_Res Int32
  | 0, _, _, _, _, _, _ => none
  | n + 1, h, a0, x1, x2, x3, x4 =>
    mz_op (mz_fR h a0 11 34) fun v1 =>
    mz_op (mz_aI h v1 0 x1) fun v2 =>
    if v2 ≤ x4 then
      mz_ret x3 h
    else
      mz_op (mz_fR h a0 11 35) fun v3 =>
      mz_op (mz_aI h v3 0 ((16 * x1) + x4)) fun v4 =>
      if v4 = x2 then
        fn_X12_slotOf_b39 (fn_X12_slotOf_b6 n) h a0 x1 x2 x4 x4
      else
        fn_X12_slotOf_b39 (fn_X12_slotOf_b6 n) h a0 x1 x2 x4 x3
set_option maxHeartbeats 4000000 in
set_option maxRecDepth 100000 in
theorem pf_X12_slotOf_b6 (r : Int32) (Y : mz_Y p g RX12 cX12_slotOf 5 (some .int) "slotOf" (mz_AF h0) s m args meth c) : ∀ (n : Nat) (h : mz_H) (a0 : (Option Nat)) (x1 : Int32) (x2 : Int32) (x3 : Int32) (x4 : Int32) (dc ds : Nat), fn_X12_slotOf_b6 n h a0 x1 x2 x3 x4 = some (r, hf, dc, ds) → mz_Go l g p e s m args below meth c 0 0 DC DS h0 (some (Value.int r)) hf 5 6 [(0, false, va_rf a0), (1, false, .int x1), (2, false, .int x2), (3, false, .int x3), (4, false, .int x4)] [] h dc ds := by
  have X := Y.1
  intro n
  induction n with
  | zero => intro h a0 x1 x2 x3 x4 dc ds hr; simp [fn_X12_slotOf_b6] at hr
  | succ n ih =>
    intro h a0 x1 x2 x3 x4 dc ds hr
    rw [fn_X12_slotOf_b6] at hr
    intro H locs cells slots ls hH hS hl hc hs
    refine lv_iload X.1 X.2.1 dX12_slotOf_6 (mz_at hl 4 rfl) ?_
    refine mz_aload_n X dX12_slotOf_8 rfl (mz_at hl 0 rfl) ?_
    refine mz_getR X hH fl_RX12_78 dX12_slotOf_9 hr (fun v1 hr => ?_)
    refine lv_iload_n X.1 X.2.1 dX12_slotOf_12 rfl (mz_at hl 1 rfl) ?_
    refine mz_iald X hH dX12_slotOf_13 hr (fun v2 hr => ?_)
    refine mz_icmp_ge X 46 dX12_slotOf_14 (by decide) hr (fun hr => ?_) (fun hr => ?_)
    · refine lv_iload_n X.1 X.2.1 dX12_slotOf_46 rfl (mz_at hl 3 rfl) ?_
      exact mz_iret Y dX12_slotOf_47 hH hS hc hs hr
    · refine mz_aload_n X dX12_slotOf_17 rfl (mz_at hl 0 rfl) ?_
      refine mz_getR X hH fl_RX12_81 dX12_slotOf_18 hr (fun v3 hr => ?_)
      refine lv_bipush (v := 16) X.1 X.2.1 dX12_slotOf_21 (by decide) ?_
      refine lv_iload_n X.1 X.2.1 dX12_slotOf_23 rfl (mz_at hl 1 rfl) ?_
      refine lv_imul X.1 X.2.1 dX12_slotOf_24 ?_
      refine lv_iload X.1 X.2.1 dX12_slotOf_25 (mz_at hl 4 rfl) ?_
      refine lv_iadd X.1 X.2.1 dX12_slotOf_27 ?_
      refine mz_iald X hH dX12_slotOf_28 hr (fun v4 hr => ?_)
      refine lv_iload_n X.1 X.2.1 dX12_slotOf_29 rfl (mz_at hl 2 rfl) ?_
      refine mz_icmp_ne X 38 dX12_slotOf_30 (by decide) hr (fun hr => ?_) (fun hr => ?_)
      · refine lv_iload_n X.1 X.2.1 dX12_slotOf_38 rfl (mz_at hl 3 rfl) ?_
        exact pf_X12_slotOf_b39 r Y ih h a0 x1 x2 x4 x3 _ _ hr H locs cells slots ls hH hS (mz_sub hl [0, 1, 2, 4] rfl) hc hs
      · refine lv_iload X.1 X.2.1 dX12_slotOf_33 (mz_at hl 4 rfl) ?_
        refine lv_goto (tgt := 39) X.1 X.2.1 dX12_slotOf_35 (by decide) ?_
        exact pf_X12_slotOf_b39 r Y ih h a0 x1 x2 x4 x4 _ _ hr H locs cells slots ls hH hS (mz_sub hl [0, 1, 2, 4] rfl) hc hs
def fn_X12_slotOf (h : mz_H) (a0 : (Option Nat)) (x1 : Int32) (x2 : Int32) : mz_Res Int32 :=
  fn_X12_slotOf_b6 1001 h a0 x1 x2 (-9) 0
set_option maxHeartbeats 4000000 in
set_option maxRecDepth 100000 in
theorem pf_X12_slotOf_b0 (r : Int32) (Y : mz_Y p g RX12 cX12_slotOf 5 (some .int) "slotOf" (mz_AF h0) s m args meth c) (h : mz_H) (a0 : (Option Nat)) (x1 : Int32) (x2 : Int32) (dc ds : Nat) (hr : fn_X12_slotOf h a0 x1 x2 = some (r, hf, dc, ds)) : mz_Go l g p e s m args below meth c 0 0 DC DS h0 (some (Value.int r)) hf 5 0 [(0, false, va_rf a0), (1, false, .int x1), (2, false, .int x2)] [] h dc ds := by
  unfold fn_X12_slotOf at hr
  intro H locs cells slots ls hH hS hl hc hs
  have X := Y.1
  refine lv_bipush (v := (-9)) X.1 X.2.1 dX12_slotOf_0 (by decide) ?_
  refine mz_istore_n X [(3, false, .int (-9)), (0, false, va_rf a0), (1, false, .int x1), (2, false, .int x2)] dX12_slotOf_2 rfl hl (by decide) rfl (fun ls hl => ?_)
  refine lv_iconst (v := 0) X.1 X.2.1 dX12_slotOf_3 (by decide) ?_
  refine mz_istore X [(4, false, .int 0), (3, false, .int (-9)), (0, false, va_rf a0), (1, false, .int x1), (2, false, .int x2)] dX12_slotOf_4 hl (by decide) rfl (fun ls hl => ?_)
  exact pf_X12_slotOf_b6 r Y 1001 h a0 x1 x2 (-9) 0 _ _ hr H locs cells slots ls hH hS (mz_sub hl [2, 3, 4, 1, 0] rfl) hc hs
set_option maxRecDepth 100000 in
theorem ct_X12_slotOf (l : Launch) (g : mz_G) (h : mz_H) (a0 : (Option Nat)) (x1 : Int32) (x2 : Int32) (r : Int32) (hf : mz_H) (k n : Nat) (hr : fn_X12_slotOf h a0 x1 x2 = some (r, hf, k, n)) : mz_C l g yX12_slotOf cX12_slotOf 5 (some .int) 0 0 [va_rf a0, .int x1, .int x2] h (some (Value.int r)) hf k n := by
  refine mz_met (as := [(false, va_rf a0), (false, .int x1), (false, .int x2)]) (plainFor_of_name (by decide)) (mz_c1 (mz_cat_rf _) (mz_c1 rfl (mz_c1 rfl mz_c0))) (Nat.le_of_ble_eq_true rfl) ?_
  intro p e s m args below meth c Y
  exact pf_X12_slotOf_b0 r Y h a0 x1 x2 _ _ hr
theorem dX12_slot_0 : decode cX12_slot 0 = .ok (.aload_n 0, 1) := by decide +kernel
theorem dX12_slot_1 : decode cX12_slot 1 = .ok (.iload_n 1, 1) := by decide +kernel
theorem dX12_slot_2 : decode cX12_slot 2 = .ok (.invokevirtual 214, 3) := by decide +kernel
theorem dX12_slot_5 : decode cX12_slot 5 = .ok (.ifCond .eq 12, 3) := by decide +kernel
theorem dX12_slot_8 : decode cX12_slot 8 = .ok (.aload_n 0, 1) := by decide +kernel
theorem dX12_slot_9 : decode cX12_slot 9 = .ok (.iload_n 1, 1) := by decide +kernel
theorem dX12_slot_10 : decode cX12_slot 10 = .ok (.iload_n 2, 1) := by decide +kernel
theorem dX12_slot_11 : decode cX12_slot 11 = .ok (.invokevirtual 223, 3) := by decide +kernel
theorem dX12_slot_14 : decode cX12_slot 14 = .ok (.goto 4, 3) := by decide +kernel
theorem dX12_slot_17 : decode cX12_slot 17 = .ok (.iconst (-1), 1) := by decide +kernel
theorem dX12_slot_18 : decode cX12_slot 18 = .ok (.ireturn, 1) := by decide +kernel
def fn_X12_slot (h : mz_H) (a0 : (Option Nat)) (x1 : Int32) (x2 : Int32) : mz_Res Int32 :=
  mz_chk (mz_is h a0 11) <| mz_call (fn_X12_isObject h a0 x1) fun v1 h =>
  if v1 = 0 then
    mz_ret (-1) h
  else
    mz_chk (mz_is h a0 11) <| mz_call (fn_X12_slotOf h a0 x1 x2) fun v2 h =>
    mz_ret v2 h
set_option maxHeartbeats 4000000 in
set_option maxRecDepth 100000 in
theorem pf_X12_slot_b0 (r : Int32) (Y : mz_Y p g RX12 cX12_slot 3 (some .int) "slot" (mz_AF h0) s m args meth c) (h : mz_H) (a0 : (Option Nat)) (x1 : Int32) (x2 : Int32) (dc ds : Nat) (hr : fn_X12_slot h a0 x1 x2 = some (r, hf, dc, ds)) : mz_Go l g p e s m args below meth c 1 24 DC DS h0 (some (Value.int r)) hf 3 0 [(0, false, va_rf a0), (1, false, .int x1), (2, false, .int x2)] [] h dc ds := by
  unfold fn_X12_slot at hr
  intro H locs cells slots ls hH hS hl hc hs
  have X := Y.1
  refine mz_aload_n X dX12_slot_0 rfl (mz_at hl 0 rfl) ?_
  refine lv_iload_n X.1 X.2.1 dX12_slot_1 rfl (mz_at hl 1 rfl) ?_
  refine mz_kV Value.int X hH hS hl.1.1 [.int x1] [] hr (ct_X12_isObject l g h a0 x1) mb_RX12_214 rfl im_X12_isObject rfl (Nat.le_of_ble_eq_true rfl) ⟨Nat.le_of_ble_eq_true rfl, Nat.le_of_ble_eq_true rfl⟩ hc hs dX12_slot_2 rfl (fun v1 h H locs cells slots dc ds hr hH hS hc hs => ?_)
  refine mz_if_eq X 17 dX12_slot_5 (by decide) hr (fun hr => ?_) (fun hr => ?_)
  · refine lv_iconst (v := (-1)) X.1 X.2.1 dX12_slot_17 (by decide) ?_
    exact mz_iret Y dX12_slot_18 hH hS hc hs hr
  · refine mz_aload_n X dX12_slot_8 rfl (mz_at hl 0 rfl) ?_
    refine lv_iload_n X.1 X.2.1 dX12_slot_9 rfl (mz_at hl 1 rfl) ?_
    refine lv_iload_n X.1 X.2.1 dX12_slot_10 rfl (mz_at hl 2 rfl) ?_
    refine mz_kV Value.int X hH hS hl.1.1 [.int x1, .int x2] [] hr (ct_X12_slotOf l g h a0 x1 x2) mb_RX12_223 rfl im_X12_slotOf rfl (Nat.le_of_ble_eq_true rfl) ⟨Nat.le_of_ble_eq_true rfl, Nat.le_of_ble_eq_true rfl⟩ hc hs dX12_slot_11 rfl (fun v2 h H locs cells slots dc ds hr hH hS hc hs => ?_)
    refine lv_goto (tgt := 18) X.1 X.2.1 dX12_slot_14 (by decide) ?_
    exact mz_iret Y dX12_slot_18 hH hS hc hs hr
set_option maxRecDepth 100000 in
theorem ct_X12_slot (l : Launch) (g : mz_G) (h : mz_H) (a0 : (Option Nat)) (x1 : Int32) (x2 : Int32) (r : Int32) (hf : mz_H) (k n : Nat) (hr : fn_X12_slot h a0 x1 x2 = some (r, hf, k, n)) : mz_C l g yX12_slot cX12_slot 3 (some .int) 1 24 [va_rf a0, .int x1, .int x2] h (some (Value.int r)) hf k n := by
  refine mz_met (as := [(false, va_rf a0), (false, .int x1), (false, .int x2)]) (plainFor_of_name (by decide)) (mz_c1 (mz_cat_rf _) (mz_c1 rfl (mz_c1 rfl mz_c0))) (Nat.le_of_ble_eq_true rfl) ?_
  intro p e s m args below meth c Y
  exact pf_X12_slot_b0 r Y h a0 x1 x2 _ _ hr
theorem dX12_kind_0 : decode cX12_kind 0 = .ok (.aload_n 0, 1) := by decide +kernel
theorem dX12_kind_1 : decode cX12_kind 1 = .ok (.iload_n 1, 1) := by decide +kernel
theorem dX12_kind_2 : decode cX12_kind 2 = .ok (.iload_n 2, 1) := by decide +kernel
theorem dX12_kind_3 : decode cX12_kind 3 = .ok (.invokevirtual 226, 3) := by decide +kernel
theorem dX12_kind_6 : decode cX12_kind 6 = .ok (.ifCond .ne 5, 3) := by decide +kernel
theorem dX12_kind_9 : decode cX12_kind 9 = .ok (.iconst (-1), 1) := by decide +kernel
theorem dX12_kind_10 : decode cX12_kind 10 = .ok (.ireturn, 1) := by decide +kernel
theorem dX12_kind_11 : decode cX12_kind 11 = .ok (.bipush 16, 2) := by decide +kernel
theorem dX12_kind_13 : decode cX12_kind 13 = .ok (.iload_n 1, 1) := by decide +kernel
theorem dX12_kind_14 : decode cX12_kind 14 = .ok (.imul, 1) := by decide +kernel
theorem dX12_kind_15 : decode cX12_kind 15 = .ok (.iload_n 2, 1) := by decide +kernel
theorem dX12_kind_16 : decode cX12_kind 16 = .ok (.iadd, 1) := by decide +kernel
theorem dX12_kind_17 : decode cX12_kind 17 = .ok (.istore 4, 2) := by decide +kernel
theorem dX12_kind_19 : decode cX12_kind 19 = .ok (.iload_n 3, 1) := by decide +kernel
theorem dX12_kind_20 : decode cX12_kind 20 = .ok (.tableswitch 64 0 3 #[32, 40, 48, 56], 32) := by decide +kernel
theorem dX12_kind_52 : decode cX12_kind 52 = .ok (.aload_n 0, 1) := by decide +kernel
theorem dX12_kind_53 : decode cX12_kind 53 = .ok (.getfield 81, 3) := by decide +kernel
theorem dX12_kind_56 : decode cX12_kind 56 = .ok (.iload 4, 2) := by decide +kernel
theorem dX12_kind_58 : decode cX12_kind 58 = .ok (.iaload, 1) := by decide +kernel
theorem dX12_kind_59 : decode cX12_kind 59 = .ok (.ireturn, 1) := by decide +kernel
theorem dX12_kind_60 : decode cX12_kind 60 = .ok (.aload_n 0, 1) := by decide +kernel
theorem dX12_kind_61 : decode cX12_kind 61 = .ok (.getfield 84, 3) := by decide +kernel
theorem dX12_kind_64 : decode cX12_kind 64 = .ok (.iload 4, 2) := by decide +kernel
theorem dX12_kind_66 : decode cX12_kind 66 = .ok (.iaload, 1) := by decide +kernel
theorem dX12_kind_67 : decode cX12_kind 67 = .ok (.ireturn, 1) := by decide +kernel
theorem dX12_kind_68 : decode cX12_kind 68 = .ok (.aload_n 0, 1) := by decide +kernel
theorem dX12_kind_69 : decode cX12_kind 69 = .ok (.getfield 87, 3) := by decide +kernel
theorem dX12_kind_72 : decode cX12_kind 72 = .ok (.iload 4, 2) := by decide +kernel
theorem dX12_kind_74 : decode cX12_kind 74 = .ok (.iaload, 1) := by decide +kernel
theorem dX12_kind_75 : decode cX12_kind 75 = .ok (.ireturn, 1) := by decide +kernel
theorem dX12_kind_76 : decode cX12_kind 76 = .ok (.aload_n 0, 1) := by decide +kernel
theorem dX12_kind_77 : decode cX12_kind 77 = .ok (.getfield 90, 3) := by decide +kernel
theorem dX12_kind_80 : decode cX12_kind 80 = .ok (.iload 4, 2) := by decide +kernel
theorem dX12_kind_82 : decode cX12_kind 82 = .ok (.iaload, 1) := by decide +kernel
theorem dX12_kind_83 : decode cX12_kind 83 = .ok (.ireturn, 1) := by decide +kernel
theorem dX12_kind_84 : decode cX12_kind 84 = .ok (.bipush (-2), 2) := by decide +kernel
theorem dX12_kind_86 : decode cX12_kind 86 = .ok (.ireturn, 1) := by decide +kernel
def fn_X12_kind (h : mz_H) (a0 : (Option Nat)) (x1 : Int32) (x2 : Int32) (x3 : Int32) : mz_Res Int32 :=
  mz_chk (mz_is h a0 11) <| mz_call (fn_X12_isSlot h a0 x1 x2) fun v1 h =>
  if v1 = 0 then
    mz_ret (-1) h
  else
    mz_op (some ((16 * x1) + x2)) fun v2 =>
    if x3 = 0 then
      mz_op (mz_fR h a0 11 35) fun v3 =>
      mz_op (mz_aI h v3 0 v2) fun v4 =>
      mz_ret v4 h
    else
    if x3 = 1 then
      mz_op (mz_fR h a0 11 36) fun v5 =>
      mz_op (mz_aI h v5 0 v2) fun v6 =>
      mz_ret v6 h
    else
    if x3 = 2 then
      mz_op (mz_fR h a0 11 37) fun v7 =>
      mz_op (mz_aI h v7 0 v2) fun v8 =>
      mz_ret v8 h
    else
    if x3 = 3 then
      mz_op (mz_fR h a0 11 38) fun v9 =>
      mz_op (mz_aI h v9 0 v2) fun v10 =>
      mz_ret v10 h
    else
    mz_ret (-2) h
set_option maxHeartbeats 4000000 in
set_option maxRecDepth 100000 in
theorem pf_X12_kind_b0 (r : Int32) (Y : mz_Y p g RX12 cX12_kind 5 (some .int) "kind" (mz_AF h0) s m args meth c) (h : mz_H) (a0 : (Option Nat)) (x1 : Int32) (x2 : Int32) (x3 : Int32) (dc ds : Nat) (hr : fn_X12_kind h a0 x1 x2 x3 = some (r, hf, dc, ds)) : mz_Go l g p e s m args below meth c 2 43 DC DS h0 (some (Value.int r)) hf 5 0 [(0, false, va_rf a0), (1, false, .int x1), (2, false, .int x2), (3, false, .int x3)] [] h dc ds := by
  unfold fn_X12_kind at hr
  intro H locs cells slots ls hH hS hl hc hs
  have X := Y.1
  refine mz_aload_n X dX12_kind_0 rfl (mz_at hl 0 rfl) ?_
  refine lv_iload_n X.1 X.2.1 dX12_kind_1 rfl (mz_at hl 1 rfl) ?_
  refine lv_iload_n X.1 X.2.1 dX12_kind_2 rfl (mz_at hl 2 rfl) ?_
  refine mz_kV Value.int X hH hS hl.1.1 [.int x1, .int x2] [] hr (ct_X12_isSlot l g h a0 x1 x2) mb_RX12_226 rfl im_X12_isSlot rfl (Nat.le_of_ble_eq_true rfl) ⟨Nat.le_of_ble_eq_true rfl, Nat.le_of_ble_eq_true rfl⟩ hc hs dX12_kind_3 rfl (fun v1 h H locs cells slots dc ds hr hH hS hc hs => ?_)
  refine mz_if_ne X 11 dX12_kind_6 (by decide) hr (fun hr => ?_) (fun hr => ?_)
  · refine lv_bipush (v := 16) X.1 X.2.1 dX12_kind_11 (by decide) ?_
    refine lv_iload_n X.1 X.2.1 dX12_kind_13 rfl (mz_at hl 1 rfl) ?_
    refine lv_imul X.1 X.2.1 dX12_kind_14 ?_
    refine lv_iload_n X.1 X.2.1 dX12_kind_15 rfl (mz_at hl 2 rfl) ?_
    refine lv_iadd X.1 X.2.1 dX12_kind_16 ?_
    refine mz_topi hr (fun v2 hv2 hr => ?_)
    refine mz_istore X [(4, false, .int v2), (0, false, va_rf a0), (1, false, .int x1), (2, false, .int x2), (3, false, .int x3)] dX12_kind_17 hl (by decide) rfl (fun ls hl => ?_)
    refine lv_iload_n X.1 X.2.1 dX12_kind_19 rfl (mz_at hl 4 rfl) ?_
    by_cases q0 : x3 = 0
    · rw [if_pos q0] at hr
      refine mz_tin X dX12_kind_20 q0 52 (by decide) (by decide) rfl (by decide) ?_
      refine mz_aload_n X dX12_kind_52 rfl (mz_at hl 1 rfl) ?_
      refine mz_getR X hH fl_RX12_81 dX12_kind_53 hr (fun v3 hr => ?_)
      refine lv_iload X.1 X.2.1 dX12_kind_56 (mz_at hl 0 rfl) ?_
      refine mz_iald X hH dX12_kind_58 hr (fun v4 hr => ?_)
      exact mz_iret Y dX12_kind_59 hH hS hc hs hr
    rw [if_neg q0] at hr
    by_cases q1 : x3 = 1
    · rw [if_pos q1] at hr
      refine mz_tin X dX12_kind_20 q1 60 (by decide) (by decide) rfl (by decide) ?_
      refine mz_aload_n X dX12_kind_60 rfl (mz_at hl 1 rfl) ?_
      refine mz_getR X hH fl_RX12_84 dX12_kind_61 hr (fun v5 hr => ?_)
      refine lv_iload X.1 X.2.1 dX12_kind_64 (mz_at hl 0 rfl) ?_
      refine mz_iald X hH dX12_kind_66 hr (fun v6 hr => ?_)
      exact mz_iret Y dX12_kind_67 hH hS hc hs hr
    rw [if_neg q1] at hr
    by_cases q2 : x3 = 2
    · rw [if_pos q2] at hr
      refine mz_tin X dX12_kind_20 q2 68 (by decide) (by decide) rfl (by decide) ?_
      refine mz_aload_n X dX12_kind_68 rfl (mz_at hl 1 rfl) ?_
      refine mz_getR X hH fl_RX12_87 dX12_kind_69 hr (fun v7 hr => ?_)
      refine lv_iload X.1 X.2.1 dX12_kind_72 (mz_at hl 0 rfl) ?_
      refine mz_iald X hH dX12_kind_74 hr (fun v8 hr => ?_)
      exact mz_iret Y dX12_kind_75 hH hS hc hs hr
    rw [if_neg q2] at hr
    by_cases q3 : x3 = 3
    · rw [if_pos q3] at hr
      refine mz_tin X dX12_kind_20 q3 76 (by decide) (by decide) rfl (by decide) ?_
      refine mz_aload_n X dX12_kind_76 rfl (mz_at hl 1 rfl) ?_
      refine mz_getR X hH fl_RX12_90 dX12_kind_77 hr (fun v9 hr => ?_)
      refine lv_iload X.1 X.2.1 dX12_kind_80 (mz_at hl 0 rfl) ?_
      refine mz_iald X hH dX12_kind_82 hr (fun v10 hr => ?_)
      exact mz_iret Y dX12_kind_83 hH hS hc hs hr
    rw [if_neg q3] at hr
    have kd : W p l e ({ frames := 2, cells := DC, slots := DS, locals := 43 }) s m args below meth c H locs cells slots (MQ below (mz_Q g h0 (some (Value.int r)) hf) args s DC DS (mz_AF h0)) (F0 m 84 ls []) := by
      refine lv_bipush (v := (-2)) X.1 X.2.1 dX12_kind_84 (by decide) ?_
      exact mz_iret Y dX12_kind_86 hH hS hc hs hr
    have t0 : ¬ (x3 : Int32).toInt = 0 := fun z => q0 (mz_ti 0 (by decide) z)
    have t1 : ¬ (x3 : Int32).toInt = 1 := fun z => q1 (mz_ti 1 (by decide) z)
    have t2 : ¬ (x3 : Int32).toInt = 2 := fun z => q2 (mz_ti 2 (by decide) z)
    have t3 : ¬ (x3 : Int32).toInt = 3 := fun z => q3 (mz_ti 3 (by decide) z)
    exact mz_tout X dX12_kind_20 84 (by omega) (by decide) kd
  · refine lv_iconst (v := (-1)) X.1 X.2.1 dX12_kind_9 (by decide) ?_
    exact mz_iret Y dX12_kind_10 hH hS hc hs hr
set_option maxRecDepth 100000 in
theorem ct_X12_kind (l : Launch) (g : mz_G) (h : mz_H) (a0 : (Option Nat)) (x1 : Int32) (x2 : Int32) (x3 : Int32) (r : Int32) (hf : mz_H) (k n : Nat) (hr : fn_X12_kind h a0 x1 x2 x3 = some (r, hf, k, n)) : mz_C l g yX12_kind cX12_kind 5 (some .int) 2 43 [va_rf a0, .int x1, .int x2, .int x3] h (some (Value.int r)) hf k n := by
  refine mz_met (as := [(false, va_rf a0), (false, .int x1), (false, .int x2), (false, .int x3)]) (plainFor_of_name (by decide)) (mz_c1 (mz_cat_rf _) (mz_c1 rfl (mz_c1 rfl (mz_c1 rfl mz_c0)))) (Nat.le_of_ble_eq_true rfl) ?_
  intro p e s m args below meth c Y
  exact pf_X12_kind_b0 r Y h a0 x1 x2 x3 _ _ hr
theorem dX12_row_0 : decode cX12_row 0 = .ok (.aload_n 0, 1) := by decide +kernel
theorem dX12_row_1 : decode cX12_row 1 = .ok (.iconst 0, 1) := by decide +kernel
theorem dX12_row_2 : decode cX12_row 2 = .ok (.putfield 125, 3) := by decide +kernel
theorem dX12_row_5 : decode cX12_row 5 = .ok (.aload_n 0, 1) := by decide +kernel
theorem dX12_row_6 : decode cX12_row 6 = .ok (.iload_n 1, 1) := by decide +kernel
theorem dX12_row_7 : decode cX12_row 7 = .ok (.iload_n 2, 1) := by decide +kernel
theorem dX12_row_8 : decode cX12_row 8 = .ok (.invokevirtual 226, 3) := by decide +kernel
theorem dX12_row_11 : decode cX12_row 11 = .ok (.ifCond .ne 5, 3) := by decide +kernel
theorem dX12_row_14 : decode cX12_row 14 = .ok (.iconst (-1), 1) := by decide +kernel
theorem dX12_row_15 : decode cX12_row 15 = .ok (.ireturn, 1) := by decide +kernel
theorem dX12_row_16 : decode cX12_row 16 = .ok (.iload_n 3, 1) := by decide +kernel
theorem dX12_row_17 : decode cX12_row 17 = .ok (.bipush 30, 2) := by decide +kernel
theorem dX12_row_19 : decode cX12_row 19 = .ok (.if_icmp .le 6, 3) := by decide +kernel
theorem dX12_row_22 : decode cX12_row 22 = .ok (.bipush (-2), 2) := by decide +kernel
theorem dX12_row_24 : decode cX12_row 24 = .ok (.ireturn, 1) := by decide +kernel
theorem dX12_row_25 : decode cX12_row 25 = .ok (.bipush 16, 2) := by decide +kernel
theorem dX12_row_27 : decode cX12_row 27 = .ok (.iload_n 1, 1) := by decide +kernel
theorem dX12_row_28 : decode cX12_row 28 = .ok (.imul, 1) := by decide +kernel
theorem dX12_row_29 : decode cX12_row 29 = .ok (.iload_n 2, 1) := by decide +kernel
theorem dX12_row_30 : decode cX12_row 30 = .ok (.iadd, 1) := by decide +kernel
theorem dX12_row_31 : decode cX12_row 31 = .ok (.istore 4, 2) := by decide +kernel
theorem dX12_row_33 : decode cX12_row 33 = .ok (.aload_n 0, 1) := by decide +kernel
theorem dX12_row_34 : decode cX12_row 34 = .ok (.getfield 87, 3) := by decide +kernel
theorem dX12_row_37 : decode cX12_row 37 = .ok (.iload 4, 2) := by decide +kernel
theorem dX12_row_39 : decode cX12_row 39 = .ok (.iaload, 1) := by decide +kernel
theorem dX12_row_40 : decode cX12_row 40 = .ok (.ifCond .ne 6, 3) := by decide +kernel
theorem dX12_row_43 : decode cX12_row 43 = .ok (.bipush (-3), 2) := by decide +kernel
theorem dX12_row_45 : decode cX12_row 45 = .ok (.ireturn, 1) := by decide +kernel
theorem dX12_row_46 : decode cX12_row 46 = .ok (.iload_n 3, 1) := by decide +kernel
theorem dX12_row_47 : decode cX12_row 47 = .ok (.ifCond .ge 9, 3) := by decide +kernel
theorem dX12_row_50 : decode cX12_row 50 = .ok (.aload_n 0, 1) := by decide +kernel
theorem dX12_row_51 : decode cX12_row 51 = .ok (.iconst 5, 1) := by decide +kernel
theorem dX12_row_52 : decode cX12_row 52 = .ok (.invokevirtual 131, 3) := by decide +kernel
theorem dX12_row_55 : decode cX12_row 55 = .ok (.ireturn, 1) := by decide +kernel
theorem dX12_row_56 : decode cX12_row 56 = .ok (.aload_n 0, 1) := by decide +kernel
theorem dX12_row_57 : decode cX12_row 57 = .ok (.getfield 93, 3) := by decide +kernel
theorem dX12_row_60 : decode cX12_row 60 = .ok (.iload 4, 2) := by decide +kernel
theorem dX12_row_62 : decode cX12_row 62 = .ok (.iconst 1, 1) := by decide +kernel
theorem dX12_row_63 : decode cX12_row 63 = .ok (.bastore, 1) := by decide +kernel
theorem dX12_row_64 : decode cX12_row 64 = .ok (.aload_n 0, 1) := by decide +kernel
theorem dX12_row_65 : decode cX12_row 65 = .ok (.getfield 96, 3) := by decide +kernel
theorem dX12_row_68 : decode cX12_row 68 = .ok (.iload 4, 2) := by decide +kernel
theorem dX12_row_70 : decode cX12_row 70 = .ok (.iload_n 3, 1) := by decide +kernel
theorem dX12_row_71 : decode cX12_row 71 = .ok (.iastore, 1) := by decide +kernel
theorem dX12_row_72 : decode cX12_row 72 = .ok (.aload_n 0, 1) := by decide +kernel
theorem dX12_row_73 : decode cX12_row 73 = .ok (.getfield 87, 3) := by decide +kernel
theorem dX12_row_76 : decode cX12_row 76 = .ok (.iload 4, 2) := by decide +kernel
theorem dX12_row_78 : decode cX12_row 78 = .ok (.iaload, 1) := by decide +kernel
theorem dX12_row_79 : decode cX12_row 79 = .ok (.iconst 1, 1) := by decide +kernel
theorem dX12_row_80 : decode cX12_row 80 = .ok (.if_icmp .ne 14, 3) := by decide +kernel
theorem dX12_row_83 : decode cX12_row 83 = .ok (.aload_n 0, 1) := by decide +kernel
theorem dX12_row_84 : decode cX12_row 84 = .ok (.iload 4, 2) := by decide +kernel
theorem dX12_row_86 : decode cX12_row 86 = .ok (.iconst 0, 1) := by decide +kernel
theorem dX12_row_87 : decode cX12_row 87 = .ok (.iload_n 3, 1) := by decide +kernel
theorem dX12_row_88 : decode cX12_row 88 = .ok (.invokevirtual 219, 3) := by decide +kernel
theorem dX12_row_91 : decode cX12_row 91 = .ok (.goto 32, 3) := by decide +kernel
theorem dX12_row_94 : decode cX12_row 94 = .ok (.iconst 0, 1) := by decide +kernel
theorem dX12_row_95 : decode cX12_row 95 = .ok (.istore 5, 2) := by decide +kernel
theorem dX12_row_97 : decode cX12_row 97 = .ok (.iload 5, 2) := by decide +kernel
theorem dX12_row_99 : decode cX12_row 99 = .ok (.iload_n 3, 1) := by decide +kernel
theorem dX12_row_100 : decode cX12_row 100 = .ok (.if_icmp .ge 23, 3) := by decide +kernel
theorem dX12_row_103 : decode cX12_row 103 = .ok (.aload_n 0, 1) := by decide +kernel
theorem dX12_row_104 : decode cX12_row 104 = .ok (.getfield 99, 3) := by decide +kernel
theorem dX12_row_107 : decode cX12_row 107 = .ok (.bipush 30, 2) := by decide +kernel
theorem dX12_row_109 : decode cX12_row 109 = .ok (.iload 4, 2) := by decide +kernel
theorem dX12_row_111 : decode cX12_row 111 = .ok (.imul, 1) := by decide +kernel
theorem dX12_row_112 : decode cX12_row 112 = .ok (.iload 5, 2) := by decide +kernel
theorem dX12_row_114 : decode cX12_row 114 = .ok (.iadd, 1) := by decide +kernel
theorem dX12_row_115 : decode cX12_row 115 = .ok (.iconst 0, 1) := by decide +kernel
theorem dX12_row_116 : decode cX12_row 116 = .ok (.bastore, 1) := by decide +kernel
theorem dX12_row_117 : decode cX12_row 117 = .ok (.iinc 5 1, 3) := by decide +kernel
theorem dX12_row_120 : decode cX12_row 120 = .ok (.goto (-23), 3) := by decide +kernel
theorem dX12_row_123 : decode cX12_row 123 = .ok (.iconst 1, 1) := by decide +kernel
theorem dX12_row_124 : decode cX12_row 124 = .ok (.ireturn, 1) := by decide +kernel
def fn_X12_row_b97 : Nat → mz_H → (Option Nat) → Int32 → Int32 → Int32 → mz_Res Int32
  | 0, _, _, _, _, _ => none
  | n + 1, h, a0, x3, x4, x5 =>
    if x3 ≤ x5 then
      mz_ret 1 h
    else
      mz_op (mz_fR h a0 11 41) fun v1 =>
      mz_op (mz_sI h v1 2 ((30 * x4) + x5) (0 &&& 1)) fun h =>
      mz_op (some (x5 + 1)) fun v2 =>
      fn_X12_row_b97 n h a0 x3 x4 v2
set_option maxHeartbeats 4000000 in
set_option maxRecDepth 100000 in
theorem pf_X12_row_b97 (r : Int32) (Y : mz_Y p g RX12 cX12_row 6 (some .int) "row" (mz_AF h0) s m args meth c) : ∀ (n : Nat) (h : mz_H) (a0 : (Option Nat)) (x3 : Int32) (x4 : Int32) (x5 : Int32) (dc ds : Nat), fn_X12_row_b97 n h a0 x3 x4 x5 = some (r, hf, dc, ds) → mz_Go l g p e s m args below meth c 2 43 DC DS h0 (some (Value.int r)) hf 6 97 [(0, false, va_rf a0), (3, false, .int x3), (4, false, .int x4), (5, false, .int x5)] [] h dc ds := by
  have X := Y.1
  intro n
  induction n with
  | zero => intro h a0 x3 x4 x5 dc ds hr; simp [fn_X12_row_b97] at hr
  | succ n ih =>
    intro h a0 x3 x4 x5 dc ds hr
    rw [fn_X12_row_b97] at hr
    intro H locs cells slots ls hH hS hl hc hs
    refine lv_iload X.1 X.2.1 dX12_row_97 (mz_at hl 3 rfl) ?_
    refine lv_iload_n X.1 X.2.1 dX12_row_99 rfl (mz_at hl 1 rfl) ?_
    refine mz_icmp_ge X 123 dX12_row_100 (by decide) hr (fun hr => ?_) (fun hr => ?_)
    · refine lv_iconst (v := 1) X.1 X.2.1 dX12_row_123 (by decide) ?_
      exact mz_iret Y dX12_row_124 hH hS hc hs hr
    · refine mz_aload_n X dX12_row_103 rfl (mz_at hl 0 rfl) ?_
      refine mz_getR X hH fl_RX12_99 dX12_row_104 hr (fun v1 hr => ?_)
      refine lv_bipush (v := 30) X.1 X.2.1 dX12_row_107 (by decide) ?_
      refine lv_iload X.1 X.2.1 dX12_row_109 (mz_at hl 2 rfl) ?_
      refine lv_imul X.1 X.2.1 dX12_row_111 ?_
      refine lv_iload X.1 X.2.1 dX12_row_112 (mz_at hl 3 rfl) ?_
      refine lv_iadd X.1 X.2.1 dX12_row_114 ?_
      refine lv_iconst (v := 0) X.1 X.2.1 dX12_row_115 (by decide) ?_
      refine mz_zast X hH hS dX12_row_116 hr (fun h H locs hr hH hS => ?_)
      obtain ⟨v2, hv2, hr⟩ := mz_op_some hr
      have hv2 := Option.some.inj hv2
      refine mz_iinc (k := 3) X [(5, false, .int v2), (0, false, va_rf a0), (3, false, .int x3), (4, false, .int x4)] v2 dX12_row_117 hl rfl hv2 (by decide) rfl (fun ls hl => ?_)
      refine lv_goto (tgt := 97) X.1 X.2.1 dX12_row_120 (by decide) ?_
      exact ih h a0 x3 x4 v2 _ _ hr H locs cells slots ls hH hS (mz_sub hl [1, 2, 3, 0] rfl) hc hs
def fn_X12_row (h : mz_H) (a0 : (Option Nat)) (x1 : Int32) (x2 : Int32) (x3 : Int32) : mz_Res Int32 :=
  mz_op (mz_pF h a0 11 0 (Value.int 0)) fun h =>
  mz_chk (mz_is h a0 11) <| mz_call (fn_X12_isSlot h a0 x1 x2) fun v1 h =>
  if v1 = 0 then
    mz_ret (-1) h
  else
    if x3 ≤ 30 then
      mz_op (some ((16 * x1) + x2)) fun v2 =>
      mz_op (mz_fR h a0 11 37) fun v3 =>
      mz_op (mz_aI h v3 0 v2) fun v4 =>
      if v4 = 0 then
        mz_ret (-3) h
      else
        if 0 ≤ x3 then
          mz_op (mz_fR h a0 11 39) fun v5 =>
          mz_op (mz_sI h v5 2 v2 (1 &&& 1)) fun h =>
          mz_op (mz_fR h a0 11 40) fun v6 =>
          mz_op (mz_sI h v6 0 v2 x3) fun h =>
          mz_op (mz_fR h a0 11 37) fun v7 =>
          mz_op (mz_aI h v7 0 v2) fun v8 =>
          if v8 = 1 then
            mz_chk (mz_is h a0 11) <| mz_call (fn_X12_clear h a0 v2 0 x3) fun _ h =>
            mz_ret 1 h
          else
            fn_X12_row_b97 1001 h a0 x3 v2 0
        else
          mz_chk (mz_is h a0 11) <| mz_call (fn_X12_fails h a0 5) fun v9 h =>
          mz_ret v9 h
    else
      mz_ret (-2) h
set_option maxHeartbeats 4000000 in
set_option maxRecDepth 100000 in
theorem pf_X12_row_b0 (r : Int32) (Y : mz_Y p g RX12 cX12_row 6 (some .int) "row" (mz_AF h0) s m args meth c) (h : mz_H) (a0 : (Option Nat)) (x1 : Int32) (x2 : Int32) (x3 : Int32) (dc ds : Nat) (hr : fn_X12_row h a0 x1 x2 x3 = some (r, hf, dc, ds)) : mz_Go l g p e s m args below meth c 2 43 DC DS h0 (some (Value.int r)) hf 6 0 [(0, false, va_rf a0), (1, false, .int x1), (2, false, .int x2), (3, false, .int x3)] [] h dc ds := by
  unfold fn_X12_row at hr
  intro H locs cells slots ls hH hS hl hc hs
  have X := Y.1
  refine mz_aload_n X dX12_row_0 rfl (mz_at hl 0 rfl) ?_
  refine lv_iconst (v := 0) X.1 X.2.1 dX12_row_1 (by decide) ?_
  refine mz_put X hH hS fp_RX12_125 dX12_row_2 rfl rfl hr (fun h H locs hr hH hS => ?_)
  refine mz_aload_n X dX12_row_5 rfl (mz_at hl 0 rfl) ?_
  refine lv_iload_n X.1 X.2.1 dX12_row_6 rfl (mz_at hl 1 rfl) ?_
  refine lv_iload_n X.1 X.2.1 dX12_row_7 rfl (mz_at hl 2 rfl) ?_
  refine mz_kV Value.int X hH hS hl.1.1 [.int x1, .int x2] [] hr (ct_X12_isSlot l g h a0 x1 x2) mb_RX12_226 rfl im_X12_isSlot rfl (Nat.le_of_ble_eq_true rfl) ⟨Nat.le_of_ble_eq_true rfl, Nat.le_of_ble_eq_true rfl⟩ hc hs dX12_row_8 rfl (fun v1 h H locs cells slots dc ds hr hH hS hc hs => ?_)
  refine mz_if_ne X 16 dX12_row_11 (by decide) hr (fun hr => ?_) (fun hr => ?_)
  · refine lv_iload_n X.1 X.2.1 dX12_row_16 rfl (mz_at hl 3 rfl) ?_
    refine lv_bipush (v := 30) X.1 X.2.1 dX12_row_17 (by decide) ?_
    refine mz_icmp_le X 25 dX12_row_19 (by decide) hr (fun hr => ?_) (fun hr => ?_)
    · refine lv_bipush (v := 16) X.1 X.2.1 dX12_row_25 (by decide) ?_
      refine lv_iload_n X.1 X.2.1 dX12_row_27 rfl (mz_at hl 1 rfl) ?_
      refine lv_imul X.1 X.2.1 dX12_row_28 ?_
      refine lv_iload_n X.1 X.2.1 dX12_row_29 rfl (mz_at hl 2 rfl) ?_
      refine lv_iadd X.1 X.2.1 dX12_row_30 ?_
      refine mz_topi hr (fun v2 hv2 hr => ?_)
      refine mz_istore X [(4, false, .int v2), (0, false, va_rf a0), (1, false, .int x1), (2, false, .int x2), (3, false, .int x3)] dX12_row_31 hl (by decide) rfl (fun ls hl => ?_)
      refine mz_aload_n X dX12_row_33 rfl (mz_at hl 1 rfl) ?_
      refine mz_getR X hH fl_RX12_87 dX12_row_34 hr (fun v3 hr => ?_)
      refine lv_iload X.1 X.2.1 dX12_row_37 (mz_at hl 0 rfl) ?_
      refine mz_iald X hH dX12_row_39 hr (fun v4 hr => ?_)
      refine mz_if_ne X 46 dX12_row_40 (by decide) hr (fun hr => ?_) (fun hr => ?_)
      · refine lv_iload_n X.1 X.2.1 dX12_row_46 rfl (mz_at hl 4 rfl) ?_
        refine mz_if_ge X 56 dX12_row_47 (by decide) hr (fun hr => ?_) (fun hr => ?_)
        · refine mz_aload_n X dX12_row_56 rfl (mz_at hl 1 rfl) ?_
          refine mz_getR X hH fl_RX12_93 dX12_row_57 hr (fun v5 hr => ?_)
          refine lv_iload X.1 X.2.1 dX12_row_60 (mz_at hl 0 rfl) ?_
          refine lv_iconst (v := 1) X.1 X.2.1 dX12_row_62 (by decide) ?_
          refine mz_zast X hH hS dX12_row_63 hr (fun h H locs hr hH hS => ?_)
          refine mz_aload_n X dX12_row_64 rfl (mz_at hl 1 rfl) ?_
          refine mz_getR X hH fl_RX12_96 dX12_row_65 hr (fun v6 hr => ?_)
          refine lv_iload X.1 X.2.1 dX12_row_68 (mz_at hl 0 rfl) ?_
          refine lv_iload_n X.1 X.2.1 dX12_row_70 rfl (mz_at hl 4 rfl) ?_
          refine mz_iast X hH hS dX12_row_71 hr (fun h H locs hr hH hS => ?_)
          refine mz_aload_n X dX12_row_72 rfl (mz_at hl 1 rfl) ?_
          refine mz_getR X hH fl_RX12_87 dX12_row_73 hr (fun v7 hr => ?_)
          refine lv_iload X.1 X.2.1 dX12_row_76 (mz_at hl 0 rfl) ?_
          refine mz_iald X hH dX12_row_78 hr (fun v8 hr => ?_)
          refine lv_iconst (v := 1) X.1 X.2.1 dX12_row_79 (by decide) ?_
          refine mz_icmp_ne X 94 dX12_row_80 (by decide) hr (fun hr => ?_) (fun hr => ?_)
          · refine lv_iconst (v := 0) X.1 X.2.1 dX12_row_94 (by decide) ?_
            refine mz_istore X [(5, false, .int 0), (4, false, .int v2), (0, false, va_rf a0), (1, false, .int x1), (2, false, .int x2), (3, false, .int x3)] dX12_row_95 hl (by decide) rfl (fun ls hl => ?_)
            exact pf_X12_row_b97 r Y 1001 h a0 x3 v2 0 _ _ hr H locs cells slots ls hH hS (mz_sub hl [2, 5, 1, 0] rfl) hc hs
          · refine mz_aload_n X dX12_row_83 rfl (mz_at hl 1 rfl) ?_
            refine lv_iload X.1 X.2.1 dX12_row_84 (mz_at hl 0 rfl) ?_
            refine lv_iconst (v := 0) X.1 X.2.1 dX12_row_86 (by decide) ?_
            refine lv_iload_n X.1 X.2.1 dX12_row_87 rfl (mz_at hl 4 rfl) ?_
            refine mz_kV0 X hH hS hl.1.1 [.int v2, .int 0, .int x3] [] hr (ct_X12_clear l g h a0 v2 0 x3) mb_RX12_219 rfl im_X12_clear rfl (Nat.le_of_ble_eq_true rfl) ⟨Nat.le_of_ble_eq_true rfl, Nat.le_of_ble_eq_true rfl⟩ hc hs dX12_row_88 rfl (fun _ h H locs cells slots dc ds hr hH hS hc hs => ?_)
            refine lv_goto (tgt := 123) X.1 X.2.1 dX12_row_91 (by decide) ?_
            refine lv_iconst (v := 1) X.1 X.2.1 dX12_row_123 (by decide) ?_
            exact mz_iret Y dX12_row_124 hH hS hc hs hr
        · refine mz_aload_n X dX12_row_50 rfl (mz_at hl 1 rfl) ?_
          refine lv_iconst (v := 5) X.1 X.2.1 dX12_row_51 (by decide) ?_
          refine mz_kV Value.int X hH hS hl.1.1 [.int 5] [] hr (ct_X12_fails l g h a0 5) mb_RX12_131 rfl im_X12_fails rfl (Nat.le_of_ble_eq_true rfl) ⟨Nat.le_of_ble_eq_true rfl, Nat.le_of_ble_eq_true rfl⟩ hc hs dX12_row_52 rfl (fun v9 h H locs cells slots dc ds hr hH hS hc hs => ?_)
          exact mz_iret Y dX12_row_55 hH hS hc hs hr
      · refine lv_bipush (v := (-3)) X.1 X.2.1 dX12_row_43 (by decide) ?_
        exact mz_iret Y dX12_row_45 hH hS hc hs hr
    · refine lv_bipush (v := (-2)) X.1 X.2.1 dX12_row_22 (by decide) ?_
      exact mz_iret Y dX12_row_24 hH hS hc hs hr
  · refine lv_iconst (v := (-1)) X.1 X.2.1 dX12_row_14 (by decide) ?_
    exact mz_iret Y dX12_row_15 hH hS hc hs hr
set_option maxRecDepth 100000 in
theorem ct_X12_row (l : Launch) (g : mz_G) (h : mz_H) (a0 : (Option Nat)) (x1 : Int32) (x2 : Int32) (x3 : Int32) (r : Int32) (hf : mz_H) (k n : Nat) (hr : fn_X12_row h a0 x1 x2 x3 = some (r, hf, k, n)) : mz_C l g yX12_row cX12_row 6 (some .int) 2 43 [va_rf a0, .int x1, .int x2, .int x3] h (some (Value.int r)) hf k n := by
  refine mz_met (as := [(false, va_rf a0), (false, .int x1), (false, .int x2), (false, .int x3)]) (plainFor_of_name (by decide)) (mz_c1 (mz_cat_rf _) (mz_c1 rfl (mz_c1 rfl (mz_c1 rfl mz_c0)))) (Nat.le_of_ble_eq_true rfl) ?_
  intro p e s m args below meth c Y
  exact pf_X12_row_b0 r Y h a0 x1 x2 x3 _ _ hr
theorem dX12_inner_0 : decode cX12_inner 0 = .ok (.aload_n 0, 1) := by decide +kernel
theorem dX12_inner_1 : decode cX12_inner 1 = .ok (.iconst 0, 1) := by decide +kernel
theorem dX12_inner_2 : decode cX12_inner 2 = .ok (.putfield 125, 3) := by decide +kernel
theorem dX12_inner_5 : decode cX12_inner 5 = .ok (.aload_n 0, 1) := by decide +kernel
theorem dX12_inner_6 : decode cX12_inner 6 = .ok (.iload_n 1, 1) := by decide +kernel
theorem dX12_inner_7 : decode cX12_inner 7 = .ok (.iload_n 2, 1) := by decide +kernel
theorem dX12_inner_8 : decode cX12_inner 8 = .ok (.invokevirtual 226, 3) := by decide +kernel
theorem dX12_inner_11 : decode cX12_inner 11 = .ok (.ifCond .ne 5, 3) := by decide +kernel
theorem dX12_inner_14 : decode cX12_inner 14 = .ok (.iconst (-1), 1) := by decide +kernel
theorem dX12_inner_15 : decode cX12_inner 15 = .ok (.ireturn, 1) := by decide +kernel
theorem dX12_inner_16 : decode cX12_inner 16 = .ok (.iload 4, 2) := by decide +kernel
theorem dX12_inner_18 : decode cX12_inner 18 = .ok (.bipush 30, 2) := by decide +kernel
theorem dX12_inner_20 : decode cX12_inner 20 = .ok (.if_icmp .le 6, 3) := by decide +kernel
theorem dX12_inner_23 : decode cX12_inner 23 = .ok (.bipush (-2), 2) := by decide +kernel
theorem dX12_inner_25 : decode cX12_inner 25 = .ok (.ireturn, 1) := by decide +kernel
theorem dX12_inner_26 : decode cX12_inner 26 = .ok (.bipush 16, 2) := by decide +kernel
theorem dX12_inner_28 : decode cX12_inner 28 = .ok (.iload_n 1, 1) := by decide +kernel
theorem dX12_inner_29 : decode cX12_inner 29 = .ok (.imul, 1) := by decide +kernel
theorem dX12_inner_30 : decode cX12_inner 30 = .ok (.iload_n 2, 1) := by decide +kernel
theorem dX12_inner_31 : decode cX12_inner 31 = .ok (.iadd, 1) := by decide +kernel
theorem dX12_inner_32 : decode cX12_inner 32 = .ok (.istore 5, 2) := by decide +kernel
theorem dX12_inner_34 : decode cX12_inner 34 = .ok (.aload_n 0, 1) := by decide +kernel
theorem dX12_inner_35 : decode cX12_inner 35 = .ok (.getfield 87, 3) := by decide +kernel
theorem dX12_inner_38 : decode cX12_inner 38 = .ok (.iload 5, 2) := by decide +kernel
theorem dX12_inner_40 : decode cX12_inner 40 = .ok (.iaload, 1) := by decide +kernel
theorem dX12_inner_41 : decode cX12_inner 41 = .ok (.iconst 2, 1) := by decide +kernel
theorem dX12_inner_42 : decode cX12_inner 42 = .ok (.if_icmp .eq 6, 3) := by decide +kernel
theorem dX12_inner_45 : decode cX12_inner 45 = .ok (.bipush (-3), 2) := by decide +kernel
theorem dX12_inner_47 : decode cX12_inner 47 = .ok (.ireturn, 1) := by decide +kernel
theorem dX12_inner_48 : decode cX12_inner 48 = .ok (.iload 4, 2) := by decide +kernel
theorem dX12_inner_50 : decode cX12_inner 50 = .ok (.ifCond .ge 9, 3) := by decide +kernel
theorem dX12_inner_53 : decode cX12_inner 53 = .ok (.aload_n 0, 1) := by decide +kernel
theorem dX12_inner_54 : decode cX12_inner 54 = .ok (.iconst 5, 1) := by decide +kernel
theorem dX12_inner_55 : decode cX12_inner 55 = .ok (.invokevirtual 131, 3) := by decide +kernel
theorem dX12_inner_58 : decode cX12_inner 58 = .ok (.ireturn, 1) := by decide +kernel
theorem dX12_inner_59 : decode cX12_inner 59 = .ok (.aload_n 0, 1) := by decide +kernel
theorem dX12_inner_60 : decode cX12_inner 60 = .ok (.getfield 93, 3) := by decide +kernel
theorem dX12_inner_63 : decode cX12_inner 63 = .ok (.iload 5, 2) := by decide +kernel
theorem dX12_inner_65 : decode cX12_inner 65 = .ok (.baload, 1) := by decide +kernel
theorem dX12_inner_66 : decode cX12_inner 66 = .ok (.ifCond .ne 9, 3) := by decide +kernel
theorem dX12_inner_69 : decode cX12_inner 69 = .ok (.aload_n 0, 1) := by decide +kernel
theorem dX12_inner_70 : decode cX12_inner 70 = .ok (.iconst 1, 1) := by decide +kernel
theorem dX12_inner_71 : decode cX12_inner 71 = .ok (.invokevirtual 131, 3) := by decide +kernel
theorem dX12_inner_74 : decode cX12_inner 74 = .ok (.ireturn, 1) := by decide +kernel
theorem dX12_inner_75 : decode cX12_inner 75 = .ok (.iload_n 3, 1) := by decide +kernel
theorem dX12_inner_76 : decode cX12_inner 76 = .ok (.ifCond .lt 14, 3) := by decide +kernel
theorem dX12_inner_79 : decode cX12_inner 79 = .ok (.iload_n 3, 1) := by decide +kernel
theorem dX12_inner_80 : decode cX12_inner 80 = .ok (.aload_n 0, 1) := by decide +kernel
theorem dX12_inner_81 : decode cX12_inner 81 = .ok (.getfield 96, 3) := by decide +kernel
theorem dX12_inner_84 : decode cX12_inner 84 = .ok (.iload 5, 2) := by decide +kernel
theorem dX12_inner_86 : decode cX12_inner 86 = .ok (.iaload, 1) := by decide +kernel
theorem dX12_inner_87 : decode cX12_inner 87 = .ok (.if_icmp .lt 9, 3) := by decide +kernel
theorem dX12_inner_90 : decode cX12_inner 90 = .ok (.aload_n 0, 1) := by decide +kernel
theorem dX12_inner_91 : decode cX12_inner 91 = .ok (.iconst 3, 1) := by decide +kernel
theorem dX12_inner_92 : decode cX12_inner 92 = .ok (.invokevirtual 131, 3) := by decide +kernel
theorem dX12_inner_95 : decode cX12_inner 95 = .ok (.ireturn, 1) := by decide +kernel
theorem dX12_inner_96 : decode cX12_inner 96 = .ok (.aload_n 0, 1) := by decide +kernel
theorem dX12_inner_97 : decode cX12_inner 97 = .ok (.getfield 99, 3) := by decide +kernel
theorem dX12_inner_100 : decode cX12_inner 100 = .ok (.bipush 30, 2) := by decide +kernel
theorem dX12_inner_102 : decode cX12_inner 102 = .ok (.iload 5, 2) := by decide +kernel
theorem dX12_inner_104 : decode cX12_inner 104 = .ok (.imul, 1) := by decide +kernel
theorem dX12_inner_105 : decode cX12_inner 105 = .ok (.iload_n 3, 1) := by decide +kernel
theorem dX12_inner_106 : decode cX12_inner 106 = .ok (.iadd, 1) := by decide +kernel
theorem dX12_inner_107 : decode cX12_inner 107 = .ok (.iconst 1, 1) := by decide +kernel
theorem dX12_inner_108 : decode cX12_inner 108 = .ok (.bastore, 1) := by decide +kernel
theorem dX12_inner_109 : decode cX12_inner 109 = .ok (.aload_n 0, 1) := by decide +kernel
theorem dX12_inner_110 : decode cX12_inner 110 = .ok (.getfield 102, 3) := by decide +kernel
theorem dX12_inner_113 : decode cX12_inner 113 = .ok (.bipush 30, 2) := by decide +kernel
theorem dX12_inner_115 : decode cX12_inner 115 = .ok (.iload 5, 2) := by decide +kernel
theorem dX12_inner_117 : decode cX12_inner 117 = .ok (.imul, 1) := by decide +kernel
theorem dX12_inner_118 : decode cX12_inner 118 = .ok (.iload_n 3, 1) := by decide +kernel
theorem dX12_inner_119 : decode cX12_inner 119 = .ok (.iadd, 1) := by decide +kernel
theorem dX12_inner_120 : decode cX12_inner 120 = .ok (.iload 4, 2) := by decide +kernel
theorem dX12_inner_122 : decode cX12_inner 122 = .ok (.iastore, 1) := by decide +kernel
theorem dX12_inner_123 : decode cX12_inner 123 = .ok (.aload_n 0, 1) := by decide +kernel
theorem dX12_inner_124 : decode cX12_inner 124 = .ok (.iload 5, 2) := by decide +kernel
theorem dX12_inner_126 : decode cX12_inner 126 = .ok (.bipush 30, 2) := by decide +kernel
theorem dX12_inner_128 : decode cX12_inner 128 = .ok (.iload_n 3, 1) := by decide +kernel
theorem dX12_inner_129 : decode cX12_inner 129 = .ok (.imul, 1) := by decide +kernel
theorem dX12_inner_130 : decode cX12_inner 130 = .ok (.iload 4, 2) := by decide +kernel
theorem dX12_inner_132 : decode cX12_inner 132 = .ok (.invokevirtual 219, 3) := by decide +kernel
theorem dX12_inner_135 : decode cX12_inner 135 = .ok (.iconst 1, 1) := by decide +kernel
theorem dX12_inner_136 : decode cX12_inner 136 = .ok (.ireturn, 1) := by decide +kernel
def fn_X12_inner_b90 (h : mz_H) (a0 : (Option Nat)) : mz_Res Int32 :=
  mz_chk (mz_is h a0 11) <| mz_call (fn_X12_fails h a0 3) fun v1 h =>
  mz_ret v1 h
set_option maxHeartbeats 4000000 in
set_option maxRecDepth 100000 in
theorem pf_X12_inner_b90 (r : Int32) (Y : mz_Y p g RX12 cX12_inner 6 (some .int) "inner" (mz_AF h0) s m args meth c) (h : mz_H) (a0 : (Option Nat)) (dc ds : Nat) (hr : fn_X12_inner_b90 h a0 = some (r, hf, dc, ds)) : mz_Go l g p e s m args below meth c 2 43 DC DS h0 (some (Value.int r)) hf 6 90 [(0, false, va_rf a0)] [] h dc ds := by
  unfold fn_X12_inner_b90 at hr
  intro H locs cells slots ls hH hS hl hc hs
  have X := Y.1
  refine mz_aload_n X dX12_inner_90 rfl (mz_at hl 0 rfl) ?_
  refine lv_iconst (v := 3) X.1 X.2.1 dX12_inner_91 (by decide) ?_
  refine mz_kV Value.int X hH hS hl.1.1 [.int 3] [] hr (ct_X12_fails l g h a0 3) mb_RX12_131 rfl im_X12_fails rfl (Nat.le_of_ble_eq_true rfl) ⟨Nat.le_of_ble_eq_true rfl, Nat.le_of_ble_eq_true rfl⟩ hc hs dX12_inner_92 rfl (fun v1 h H locs cells slots dc ds hr hH hS hc hs => ?_)
  exact mz_iret Y dX12_inner_95 hH hS hc hs hr
def fn_X12_inner (h : mz_H) (a0 : (Option Nat)) (x1 : Int32) (x2 : Int32) (x3 : Int32) (x4 : Int32) : mz_Res Int32 :=
  mz_op (mz_pF h a0 11 0 (Value.int 0)) fun h =>
  mz_chk (mz_is h a0 11) <| mz_call (fn_X12_isSlot h a0 x1 x2) fun v1 h =>
  if v1 = 0 then
    mz_ret (-1) h
  else
    if x4 ≤ 30 then
      mz_op (some ((16 * x1) + x2)) fun v2 =>
      mz_op (mz_fR h a0 11 37) fun v3 =>
      mz_op (mz_aI h v3 0 v2) fun v4 =>
      if v4 = 2 then
        if 0 ≤ x4 then
          mz_op (mz_fR h a0 11 39) fun v5 =>
          mz_op (mz_aI h v5 2 v2) fun v6 =>
          if v6 = 0 then
            mz_chk (mz_is h a0 11) <| mz_call (fn_X12_fails h a0 1) fun v11 h =>
            mz_ret v11 h
          else
            if x3 < 0 then
              fn_X12_inner_b90 h a0
            else
              mz_op (mz_fR h a0 11 40) fun v7 =>
              mz_op (mz_aI h v7 0 v2) fun v8 =>
              if x3 < v8 then
                mz_op (mz_fR h a0 11 41) fun v9 =>
                mz_op (mz_sI h v9 2 ((30 * v2) + x3) (1 &&& 1)) fun h =>
                mz_op (mz_fR h a0 11 42) fun v10 =>
                mz_op (mz_sI h v10 0 ((30 * v2) + x3) x4) fun h =>
                mz_chk (mz_is h a0 11) <| mz_call (fn_X12_clear h a0 v2 (30 * x3) x4) fun _ h =>
                mz_ret 1 h
              else
                fn_X12_inner_b90 h a0
        else
          mz_chk (mz_is h a0 11) <| mz_call (fn_X12_fails h a0 5) fun v12 h =>
          mz_ret v12 h
      else
        mz_ret (-3) h
    else
      mz_ret (-2) h
set_option maxHeartbeats 4000000 in
set_option maxRecDepth 100000 in
theorem pf_X12_inner_b0 (r : Int32) (Y : mz_Y p g RX12 cX12_inner 6 (some .int) "inner" (mz_AF h0) s m args meth c) (h : mz_H) (a0 : (Option Nat)) (x1 : Int32) (x2 : Int32) (x3 : Int32) (x4 : Int32) (dc ds : Nat) (hr : fn_X12_inner h a0 x1 x2 x3 x4 = some (r, hf, dc, ds)) : mz_Go l g p e s m args below meth c 2 43 DC DS h0 (some (Value.int r)) hf 6 0 [(0, false, va_rf a0), (1, false, .int x1), (2, false, .int x2), (3, false, .int x3), (4, false, .int x4)] [] h dc ds := by
  unfold fn_X12_inner at hr
  intro H locs cells slots ls hH hS hl hc hs
  have X := Y.1
  refine mz_aload_n X dX12_inner_0 rfl (mz_at hl 0 rfl) ?_
  refine lv_iconst (v := 0) X.1 X.2.1 dX12_inner_1 (by decide) ?_
  refine mz_put X hH hS fp_RX12_125 dX12_inner_2 rfl rfl hr (fun h H locs hr hH hS => ?_)
  refine mz_aload_n X dX12_inner_5 rfl (mz_at hl 0 rfl) ?_
  refine lv_iload_n X.1 X.2.1 dX12_inner_6 rfl (mz_at hl 1 rfl) ?_
  refine lv_iload_n X.1 X.2.1 dX12_inner_7 rfl (mz_at hl 2 rfl) ?_
  refine mz_kV Value.int X hH hS hl.1.1 [.int x1, .int x2] [] hr (ct_X12_isSlot l g h a0 x1 x2) mb_RX12_226 rfl im_X12_isSlot rfl (Nat.le_of_ble_eq_true rfl) ⟨Nat.le_of_ble_eq_true rfl, Nat.le_of_ble_eq_true rfl⟩ hc hs dX12_inner_8 rfl (fun v1 h H locs cells slots dc ds hr hH hS hc hs => ?_)
  refine mz_if_ne X 16 dX12_inner_11 (by decide) hr (fun hr => ?_) (fun hr => ?_)
  · refine lv_iload X.1 X.2.1 dX12_inner_16 (mz_at hl 4 rfl) ?_
    refine lv_bipush (v := 30) X.1 X.2.1 dX12_inner_18 (by decide) ?_
    refine mz_icmp_le X 26 dX12_inner_20 (by decide) hr (fun hr => ?_) (fun hr => ?_)
    · refine lv_bipush (v := 16) X.1 X.2.1 dX12_inner_26 (by decide) ?_
      refine lv_iload_n X.1 X.2.1 dX12_inner_28 rfl (mz_at hl 1 rfl) ?_
      refine lv_imul X.1 X.2.1 dX12_inner_29 ?_
      refine lv_iload_n X.1 X.2.1 dX12_inner_30 rfl (mz_at hl 2 rfl) ?_
      refine lv_iadd X.1 X.2.1 dX12_inner_31 ?_
      refine mz_topi hr (fun v2 hv2 hr => ?_)
      refine mz_istore X [(5, false, .int v2), (0, false, va_rf a0), (1, false, .int x1), (2, false, .int x2), (3, false, .int x3), (4, false, .int x4)] dX12_inner_32 hl (by decide) rfl (fun ls hl => ?_)
      refine mz_aload_n X dX12_inner_34 rfl (mz_at hl 1 rfl) ?_
      refine mz_getR X hH fl_RX12_87 dX12_inner_35 hr (fun v3 hr => ?_)
      refine lv_iload X.1 X.2.1 dX12_inner_38 (mz_at hl 0 rfl) ?_
      refine mz_iald X hH dX12_inner_40 hr (fun v4 hr => ?_)
      refine lv_iconst (v := 2) X.1 X.2.1 dX12_inner_41 (by decide) ?_
      refine mz_icmp_eq X 48 dX12_inner_42 (by decide) hr (fun hr => ?_) (fun hr => ?_)
      · refine lv_iload X.1 X.2.1 dX12_inner_48 (mz_at hl 5 rfl) ?_
        refine mz_if_ge X 59 dX12_inner_50 (by decide) hr (fun hr => ?_) (fun hr => ?_)
        · refine mz_aload_n X dX12_inner_59 rfl (mz_at hl 1 rfl) ?_
          refine mz_getR X hH fl_RX12_93 dX12_inner_60 hr (fun v5 hr => ?_)
          refine lv_iload X.1 X.2.1 dX12_inner_63 (mz_at hl 0 rfl) ?_
          refine mz_zald X hH dX12_inner_65 hr (fun v6 hr => ?_)
          refine mz_if_ne X 75 dX12_inner_66 (by decide) hr (fun hr => ?_) (fun hr => ?_)
          · refine lv_iload_n X.1 X.2.1 dX12_inner_75 rfl (mz_at hl 4 rfl) ?_
            refine mz_if_lt X 90 dX12_inner_76 (by decide) hr (fun hr => ?_) (fun hr => ?_)
            · exact pf_X12_inner_b90 r Y h a0 _ _ hr H locs cells slots ls hH hS (mz_sub hl [1] rfl) hc hs
            · refine lv_iload_n X.1 X.2.1 dX12_inner_79 rfl (mz_at hl 4 rfl) ?_
              refine mz_aload_n X dX12_inner_80 rfl (mz_at hl 1 rfl) ?_
              refine mz_getR X hH fl_RX12_96 dX12_inner_81 hr (fun v7 hr => ?_)
              refine lv_iload X.1 X.2.1 dX12_inner_84 (mz_at hl 0 rfl) ?_
              refine mz_iald X hH dX12_inner_86 hr (fun v8 hr => ?_)
              refine mz_icmp_lt X 96 dX12_inner_87 (by decide) hr (fun hr => ?_) (fun hr => ?_)
              · refine mz_aload_n X dX12_inner_96 rfl (mz_at hl 1 rfl) ?_
                refine mz_getR X hH fl_RX12_99 dX12_inner_97 hr (fun v9 hr => ?_)
                refine lv_bipush (v := 30) X.1 X.2.1 dX12_inner_100 (by decide) ?_
                refine lv_iload X.1 X.2.1 dX12_inner_102 (mz_at hl 0 rfl) ?_
                refine lv_imul X.1 X.2.1 dX12_inner_104 ?_
                refine lv_iload_n X.1 X.2.1 dX12_inner_105 rfl (mz_at hl 4 rfl) ?_
                refine lv_iadd X.1 X.2.1 dX12_inner_106 ?_
                refine lv_iconst (v := 1) X.1 X.2.1 dX12_inner_107 (by decide) ?_
                refine mz_zast X hH hS dX12_inner_108 hr (fun h H locs hr hH hS => ?_)
                refine mz_aload_n X dX12_inner_109 rfl (mz_at hl 1 rfl) ?_
                refine mz_getR X hH fl_RX12_102 dX12_inner_110 hr (fun v10 hr => ?_)
                refine lv_bipush (v := 30) X.1 X.2.1 dX12_inner_113 (by decide) ?_
                refine lv_iload X.1 X.2.1 dX12_inner_115 (mz_at hl 0 rfl) ?_
                refine lv_imul X.1 X.2.1 dX12_inner_117 ?_
                refine lv_iload_n X.1 X.2.1 dX12_inner_118 rfl (mz_at hl 4 rfl) ?_
                refine lv_iadd X.1 X.2.1 dX12_inner_119 ?_
                refine lv_iload X.1 X.2.1 dX12_inner_120 (mz_at hl 5 rfl) ?_
                refine mz_iast X hH hS dX12_inner_122 hr (fun h H locs hr hH hS => ?_)
                refine mz_aload_n X dX12_inner_123 rfl (mz_at hl 1 rfl) ?_
                refine lv_iload X.1 X.2.1 dX12_inner_124 (mz_at hl 0 rfl) ?_
                refine lv_bipush (v := 30) X.1 X.2.1 dX12_inner_126 (by decide) ?_
                refine lv_iload_n X.1 X.2.1 dX12_inner_128 rfl (mz_at hl 4 rfl) ?_
                refine lv_imul X.1 X.2.1 dX12_inner_129 ?_
                refine lv_iload X.1 X.2.1 dX12_inner_130 (mz_at hl 5 rfl) ?_
                refine mz_kV0 X hH hS hl.1.1 [.int v2, .int (30 * x3), .int x4] [] hr (ct_X12_clear l g h a0 v2 (30 * x3) x4) mb_RX12_219 rfl im_X12_clear rfl (Nat.le_of_ble_eq_true rfl) ⟨Nat.le_of_ble_eq_true rfl, Nat.le_of_ble_eq_true rfl⟩ hc hs dX12_inner_132 rfl (fun _ h H locs cells slots dc ds hr hH hS hc hs => ?_)
                refine lv_iconst (v := 1) X.1 X.2.1 dX12_inner_135 (by decide) ?_
                exact mz_iret Y dX12_inner_136 hH hS hc hs hr
              · exact pf_X12_inner_b90 r Y h a0 _ _ hr H locs cells slots ls hH hS (mz_sub hl [1] rfl) hc hs
          · refine mz_aload_n X dX12_inner_69 rfl (mz_at hl 1 rfl) ?_
            refine lv_iconst (v := 1) X.1 X.2.1 dX12_inner_70 (by decide) ?_
            refine mz_kV Value.int X hH hS hl.1.1 [.int 1] [] hr (ct_X12_fails l g h a0 1) mb_RX12_131 rfl im_X12_fails rfl (Nat.le_of_ble_eq_true rfl) ⟨Nat.le_of_ble_eq_true rfl, Nat.le_of_ble_eq_true rfl⟩ hc hs dX12_inner_71 rfl (fun v11 h H locs cells slots dc ds hr hH hS hc hs => ?_)
            exact mz_iret Y dX12_inner_74 hH hS hc hs hr
        · refine mz_aload_n X dX12_inner_53 rfl (mz_at hl 1 rfl) ?_
          refine lv_iconst (v := 5) X.1 X.2.1 dX12_inner_54 (by decide) ?_
          refine mz_kV Value.int X hH hS hl.1.1 [.int 5] [] hr (ct_X12_fails l g h a0 5) mb_RX12_131 rfl im_X12_fails rfl (Nat.le_of_ble_eq_true rfl) ⟨Nat.le_of_ble_eq_true rfl, Nat.le_of_ble_eq_true rfl⟩ hc hs dX12_inner_55 rfl (fun v12 h H locs cells slots dc ds hr hH hS hc hs => ?_)
          exact mz_iret Y dX12_inner_58 hH hS hc hs hr
      · refine lv_bipush (v := (-3)) X.1 X.2.1 dX12_inner_45 (by decide) ?_
        exact mz_iret Y dX12_inner_47 hH hS hc hs hr
    · refine lv_bipush (v := (-2)) X.1 X.2.1 dX12_inner_23 (by decide) ?_
      exact mz_iret Y dX12_inner_25 hH hS hc hs hr
  · refine lv_iconst (v := (-1)) X.1 X.2.1 dX12_inner_14 (by decide) ?_
    exact mz_iret Y dX12_inner_15 hH hS hc hs hr
set_option maxRecDepth 100000 in
theorem ct_X12_inner (l : Launch) (g : mz_G) (h : mz_H) (a0 : (Option Nat)) (x1 : Int32) (x2 : Int32) (x3 : Int32) (x4 : Int32) (r : Int32) (hf : mz_H) (k n : Nat) (hr : fn_X12_inner h a0 x1 x2 x3 x4 = some (r, hf, k, n)) : mz_C l g yX12_inner cX12_inner 6 (some .int) 2 43 [va_rf a0, .int x1, .int x2, .int x3, .int x4] h (some (Value.int r)) hf k n := by
  refine mz_met (as := [(false, va_rf a0), (false, .int x1), (false, .int x2), (false, .int x3), (false, .int x4)]) (plainFor_of_name (by decide)) (mz_c1 (mz_cat_rf _) (mz_c1 rfl (mz_c1 rfl (mz_c1 rfl (mz_c1 rfl mz_c0))))) (Nat.le_of_ble_eq_true rfl) ?_
  intro p e s m args below meth c Y
  exact pf_X12_inner_b0 r Y h a0 x1 x2 x3 x4 _ _ hr
end

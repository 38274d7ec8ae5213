/-! X3_floorOf X3_nearestWhole X3_wholeOf X3_shiftedDown X3_sum X3_product X2_init X2_isMarked X1_init X1_forget X1_take X9_init -/
section
variable {p : Program} {l : Launch} {e : Env} {s : State} {m : MethodId} {args : Array Value} {below : List Frame} {meth : Method} {c : Code} {g : mz_G} {h0 hf : mz_H} {DC DS : Nat}
theorem dX3_floorOf_0 : decode cX3_floorOf 0 = .ok (.lload_n 0, 1) := by decide +kernel
theorem dX3_floorOf_1 : decode cX3_floorOf 1 = .ok (.invokestatic 42, 3) := by decide +kernel
theorem dX3_floorOf_4 : decode cX3_floorOf 4 = .ok (.ineg, 1) := by decide +kernel
theorem dX3_floorOf_5 : decode cX3_floorOf 5 = .ok (.istore_n 2, 1) := by decide +kernel
theorem dX3_floorOf_6 : decode cX3_floorOf 6 = .ok (.iload_n 2, 1) := by decide +kernel
theorem dX3_floorOf_7 : decode cX3_floorOf 7 = .ok (.ifCond .gt 5, 3) := by decide +kernel
theorem dX3_floorOf_10 : decode cX3_floorOf 10 = .ok (.lload_n 0, 1) := by decide +kernel
theorem dX3_floorOf_11 : decode cX3_floorOf 11 = .ok (.lreturn, 1) := by decide +kernel
theorem dX3_floorOf_12 : decode cX3_floorOf 12 = .ok (.iload_n 2, 1) := by decide +kernel
theorem dX3_floorOf_13 : decode cX3_floorOf 13 = .ok (.bipush 64, 2) := by decide +kernel
theorem dX3_floorOf_15 : decode cX3_floorOf 15 = .ok (.if_icmp .ge 12, 3) := by decide +kernel
theorem dX3_floorOf_18 : decode cX3_floorOf 18 = .ok (.lload_n 0, 1) := by decide +kernel
theorem dX3_floorOf_19 : decode cX3_floorOf 19 = .ok (.invokestatic 46, 3) := by decide +kernel
theorem dX3_floorOf_22 : decode cX3_floorOf 22 = .ok (.iload_n 2, 1) := by decide +kernel
theorem dX3_floorOf_23 : decode cX3_floorOf 23 = .ok (.lushr, 1) := by decide +kernel
theorem dX3_floorOf_24 : decode cX3_floorOf 24 = .ok (.goto 4, 3) := by decide +kernel
theorem dX3_floorOf_27 : decode cX3_floorOf 27 = .ok (.lconst 0, 1) := by decide +kernel
theorem dX3_floorOf_28 : decode cX3_floorOf 28 = .ok (.lstore_n 3, 1) := by decide +kernel
theorem dX3_floorOf_29 : decode cX3_floorOf 29 = .ok (.iload_n 2, 1) := by decide +kernel
theorem dX3_floorOf_30 : decode cX3_floorOf 30 = .ok (.bipush 64, 2) := by decide +kernel
theorem dX3_floorOf_32 : decode cX3_floorOf 32 = .ok (.if_icmp .ge 22, 3) := by decide +kernel
theorem dX3_floorOf_35 : decode cX3_floorOf 35 = .ok (.lload_n 3, 1) := by decide +kernel
theorem dX3_floorOf_36 : decode cX3_floorOf 36 = .ok (.iload_n 2, 1) := by decide +kernel
theorem dX3_floorOf_37 : decode cX3_floorOf 37 = .ok (.lshl, 1) := by decide +kernel
theorem dX3_floorOf_38 : decode cX3_floorOf 38 = .ok (.lload_n 0, 1) := by decide +kernel
theorem dX3_floorOf_39 : decode cX3_floorOf 39 = .ok (.invokestatic 46, 3) := by decide +kernel
theorem dX3_floorOf_42 : decode cX3_floorOf 42 = .ok (.lcmp, 1) := by decide +kernel
theorem dX3_floorOf_43 : decode cX3_floorOf 43 = .ok (.ifCond .ne 7, 3) := by decide +kernel
theorem dX3_floorOf_46 : decode cX3_floorOf 46 = .ok (.iconst 1, 1) := by decide +kernel
theorem dX3_floorOf_47 : decode cX3_floorOf 47 = .ok (.goto 11, 3) := by decide +kernel
theorem dX3_floorOf_50 : decode cX3_floorOf 50 = .ok (.iconst 0, 1) := by decide +kernel
theorem dX3_floorOf_51 : decode cX3_floorOf 51 = .ok (.goto 7, 3) := by decide +kernel
theorem dX3_floorOf_54 : decode cX3_floorOf 54 = .ok (.lload_n 0, 1) := by decide +kernel
theorem dX3_floorOf_55 : decode cX3_floorOf 55 = .ok (.invokestatic 49, 3) := by decide +kernel
theorem dX3_floorOf_58 : decode cX3_floorOf 58 = .ok (.istore 5, 2) := by decide +kernel
theorem dX3_floorOf_60 : decode cX3_floorOf 60 = .ok (.lload_n 0, 1) := by decide +kernel
theorem dX3_floorOf_61 : decode cX3_floorOf 61 = .ok (.lconst 0, 1) := by decide +kernel
theorem dX3_floorOf_62 : decode cX3_floorOf 62 = .ok (.lcmp, 1) := by decide +kernel
theorem dX3_floorOf_63 : decode cX3_floorOf 63 = .ok (.ifCond .ge 12, 3) := by decide +kernel
theorem dX3_floorOf_66 : decode cX3_floorOf 66 = .ok (.iload 5, 2) := by decide +kernel
theorem dX3_floorOf_68 : decode cX3_floorOf 68 = .ok (.ifCond .ne 7, 3) := by decide +kernel
theorem dX3_floorOf_71 : decode cX3_floorOf 71 = .ok (.lload_n 3, 1) := by decide +kernel
theorem dX3_floorOf_72 : decode cX3_floorOf 72 = .ok (.lconst 1, 1) := by decide +kernel
theorem dX3_floorOf_73 : decode cX3_floorOf 73 = .ok (.ladd, 1) := by decide +kernel
theorem dX3_floorOf_74 : decode cX3_floorOf 74 = .ok (.lstore_n 3, 1) := by decide +kernel
theorem dX3_floorOf_75 : decode cX3_floorOf 75 = .ok (.lload_n 0, 1) := by decide +kernel
theorem dX3_floorOf_76 : decode cX3_floorOf 76 = .ok (.ldc2_w 33, 3) := by decide +kernel
theorem dX3_floorOf_79 : decode cX3_floorOf 79 = .ok (.land, 1) := by decide +kernel
theorem dX3_floorOf_80 : decode cX3_floorOf 80 = .ok (.lload_n 3, 1) := by decide +kernel
theorem dX3_floorOf_81 : decode cX3_floorOf 81 = .ok (.iconst 0, 1) := by decide +kernel
theorem dX3_floorOf_82 : decode cX3_floorOf 82 = .ok (.sipush 1024, 3) := by decide +kernel
theorem dX3_floorOf_85 : decode cX3_floorOf 85 = .ok (.invokestatic 52, 3) := by decide +kernel
theorem dX3_floorOf_88 : decode cX3_floorOf 88 = .ok (.lreturn, 1) := by decide +kernel
def fn_X3_floorOf_b75 (h : mz_H) (j0 : Int64) (j3 : Int64) : mz_Res Int64 :=
  mz_call (fn_X3_packed h (j0 &&& (-9223372036854775808)) j3 0 1024) fun v1 h =>
  mz_ret v1 h
set_option maxHeartbeats 4000000 in
set_option maxRecDepth 100000 in
theorem pf_X3_floorOf_b75 (r : Int64) (Y : mz_Y p g RX3 cX3_floorOf 6 (some .long) "floorOf" (mz_AF h0) s m args meth c) (h : mz_H) (j0 : Int64) (j3 : Int64) (dc ds : Nat) (hr : fn_X3_floorOf_b75 h j0 j3 = some (r, hf, dc, ds)) : mz_Go l g p e s m args below meth c 2 52 DC DS h0 (some (Value.long r)) hf 6 75 [(0, true, .long j0), (3, true, .long j3)] [] h dc ds := by
  unfold fn_X3_floorOf_b75 at hr
  intro H locs cells slots ls hH hS hl hc hs
  have X := Y.1
  refine lv_lload_n X.1 X.2.1 dX3_floorOf_75 rfl (mz_at hl 0 rfl) ?_
  refine mz_ldc2 (v := (-9223372036854775808)) X (mz_tb 683 (by decide +kernel) rfl) dX3_floorOf_76 ?_
  refine lv_land X.1 X.2.1 dX3_floorOf_79 ?_
  refine lv_lload_n X.1 X.2.1 dX3_floorOf_80 rfl (mz_at hl 1 rfl) ?_
  refine lv_iconst (v := 0) X.1 X.2.1 dX3_floorOf_81 (by decide) ?_
  refine lv_sipush (v := 1024) X.1 X.2.1 dX3_floorOf_82 (by decide) ?_
  refine mz_kS Value.long X hH hS hl.1.1 [.long (j0 &&& (-9223372036854775808)), .long j3, .int 0, .int 1024] [] hr (ct_X3_packed l g h (j0 &&& (-9223372036854775808)) j3 0 1024) mb_RX3_52 im_X3_packed rfl (Nat.le_of_ble_eq_true rfl) ⟨Nat.le_of_ble_eq_true rfl, Nat.le_of_ble_eq_true rfl⟩ hc hs dX3_floorOf_85 rfl (fun v1 h H locs cells slots dc ds hr hH hS hc hs => ?_)
  exact mz_lret Y dX3_floorOf_88 hH hS hc hs hr
def fn_X3_floorOf_b58 (h : mz_H) (j0 : Int64) (j3 : Int64) (s0 : Int32) : mz_Res Int64 :=
  if 0 ≤ (lg_cmp j0 0) then
    fn_X3_floorOf_b75 h j0 j3
  else
    if s0 = 0 then
      mz_op (some (j3 + 1)) fun v1 =>
      fn_X3_floorOf_b75 h j0 v1
    else
      fn_X3_floorOf_b75 h j0 j3
set_option maxHeartbeats 4000000 in
set_option maxRecDepth 100000 in
theorem pf_X3_floorOf_b58 (r : Int64) (Y : mz_Y p g RX3 cX3_floorOf 6 (some .long) "floorOf" (mz_AF h0) s m args meth c) (h : mz_H) (j0 : Int64) (j3 : Int64) (s0 : Int32) (dc ds : Nat) (hr : fn_X3_floorOf_b58 h j0 j3 s0 = some (r, hf, dc, ds)) : mz_Go l g p e s m args below meth c 2 52 DC DS h0 (some (Value.long r)) hf 6 58 [(0, true, .long j0), (3, true, .long j3)] [.int s0] h dc ds := by
  unfold fn_X3_floorOf_b58 at hr
  intro H locs cells slots ls hH hS hl hc hs
  have X := Y.1
  refine mz_istore X [(5, false, .int s0), (0, true, .long j0), (3, true, .long j3)] dX3_floorOf_58 hl (by decide) rfl (fun ls hl => ?_)
  refine lv_lload_n X.1 X.2.1 dX3_floorOf_60 rfl (mz_at hl 1 rfl) ?_
  refine lv_lconst (v := 0) X.1 X.2.1 dX3_floorOf_61 (by decide) ?_
  refine W.lcmp X.1 X.2.1 dX3_floorOf_62 ?_
  refine mz_if_ge X 75 dX3_floorOf_63 (by decide) hr (fun hr => ?_) (fun hr => ?_)
  · exact pf_X3_floorOf_b75 r Y h j0 j3 _ _ hr H locs cells slots ls hH hS (mz_sub hl [1, 2] rfl) hc hs
  · refine lv_iload X.1 X.2.1 dX3_floorOf_66 (mz_at hl 0 rfl) ?_
    refine mz_if_ne X 75 dX3_floorOf_68 (by decide) hr (fun hr => ?_) (fun hr => ?_)
    · exact pf_X3_floorOf_b75 r Y h j0 j3 _ _ hr H locs cells slots ls hH hS (mz_sub hl [1, 2] rfl) hc hs
    · refine lv_lload_n X.1 X.2.1 dX3_floorOf_71 rfl (mz_at hl 2 rfl) ?_
      refine lv_lconst (v := 1) X.1 X.2.1 dX3_floorOf_72 (by decide) ?_
      refine lv_ladd X.1 X.2.1 dX3_floorOf_73 ?_
      refine mz_topl hr (fun v1 hv1 hr => ?_)
      refine mz_lstore_n X [(3, true, .long v1), (5, false, .int s0), (0, true, .long j0)] dX3_floorOf_74 rfl hl (by decide) rfl (fun ls hl => ?_)
      exact pf_X3_floorOf_b75 r Y h j0 v1 _ _ hr H locs cells slots ls hH hS (mz_sub hl [2, 0] rfl) hc hs
def fn_X3_floorOf_b28 (h : mz_H) (j0 : Int64) (x2 : Int32) (s0 : Int64) : mz_Res Int64 :=
  if 64 ≤ x2 then
    mz_call (fn_X3_isZero h j0) fun v1 h =>
    fn_X3_floorOf_b58 h j0 s0 v1
  else
    mz_call (fn_X3_digitsOf h j0) fun v2 h =>
    if (lg_cmp (mz_shl s0 x2) v2) = 0 then
      fn_X3_floorOf_b58 h j0 s0 1
    else
      fn_X3_floorOf_b58 h j0 s0 0
set_option maxHeartbeats 4000000 in
set_option maxRecDepth 100000 in
theorem pf_X3_floorOf_b28 (r : Int64) (Y : mz_Y p g RX3 cX3_floorOf 6 (some .long) "floorOf" (mz_AF h0) s m args meth c) (h : mz_H) (j0 : Int64) (x2 : Int32) (s0 : Int64) (dc ds : Nat) (hr : fn_X3_floorOf_b28 h j0 x2 s0 = some (r, hf, dc, ds)) : mz_Go l g p e s m args below meth c 2 52 DC DS h0 (some (Value.long r)) hf 6 28 [(0, true, .long j0), (2, false, .int x2)] [.long s0] h dc ds := by
  unfold fn_X3_floorOf_b28 at hr
  intro H locs cells slots ls hH hS hl hc hs
  have X := Y.1
  refine mz_lstore_n X [(3, true, .long s0), (0, true, .long j0), (2, false, .int x2)] dX3_floorOf_28 rfl hl (by decide) rfl (fun ls hl => ?_)
  refine lv_iload_n X.1 X.2.1 dX3_floorOf_29 rfl (mz_at hl 2 rfl) ?_
  refine lv_bipush (v := 64) X.1 X.2.1 dX3_floorOf_30 (by decide) ?_
  refine mz_icmp_ge X 54 dX3_floorOf_32 (by decide) hr (fun hr => ?_) (fun hr => ?_)
  · refine lv_lload_n X.1 X.2.1 dX3_floorOf_54 rfl (mz_at hl 1 rfl) ?_
    refine mz_kS Value.int X hH hS hl.1.1 [.long j0] [] hr (ct_X3_isZero l g h j0) mb_RX3_49 im_X3_isZero rfl (Nat.le_of_ble_eq_true rfl) ⟨Nat.le_of_ble_eq_true rfl, Nat.le_of_ble_eq_true rfl⟩ hc hs dX3_floorOf_55 rfl (fun v1 h H locs cells slots dc ds hr hH hS hc hs => ?_)
    exact pf_X3_floorOf_b58 r Y h j0 s0 v1 _ _ hr H locs cells slots ls hH hS (mz_sub hl [1, 0] rfl) hc hs
  · refine lv_lload_n X.1 X.2.1 dX3_floorOf_35 rfl (mz_at hl 0 rfl) ?_
    refine lv_iload_n X.1 X.2.1 dX3_floorOf_36 rfl (mz_at hl 2 rfl) ?_
    refine lv_lshl (v := (mz_shl s0 x2)) X.1 X.2.1 dX3_floorOf_37 rfl ?_
    refine lv_lload_n X.1 X.2.1 dX3_floorOf_38 rfl (mz_at hl 1 rfl) ?_
    refine mz_kS Value.long X hH hS hl.1.1 [.long j0] [.long (mz_shl s0 x2)] hr (ct_X3_digitsOf l g h j0) mb_RX3_46 im_X3_digitsOf rfl (Nat.le_of_ble_eq_true rfl) ⟨Nat.le_of_ble_eq_true rfl, Nat.le_of_ble_eq_true rfl⟩ hc hs dX3_floorOf_39 rfl (fun v2 h H locs cells slots dc ds hr hH hS hc hs => ?_)
    refine W.lcmp X.1 X.2.1 dX3_floorOf_42 ?_
    refine mz_if_ne X 50 dX3_floorOf_43 (by decide) hr (fun hr => ?_) (fun hr => ?_)
    · refine lv_iconst (v := 0) X.1 X.2.1 dX3_floorOf_50 (by decide) ?_
      refine lv_goto (tgt := 58) X.1 X.2.1 dX3_floorOf_51 (by decide) ?_
      exact pf_X3_floorOf_b58 r Y h j0 s0 0 _ _ hr H locs cells slots ls hH hS (mz_sub hl [1, 0] rfl) hc hs
    · refine lv_iconst (v := 1) X.1 X.2.1 dX3_floorOf_46 (by decide) ?_
      refine lv_goto (tgt := 58) X.1 X.2.1 dX3_floorOf_47 (by decide) ?_
      exact pf_X3_floorOf_b58 r Y h j0 s0 1 _ _ hr H locs cells slots ls hH hS (mz_sub hl [1, 0] rfl) hc hs
def fn_X3_floorOf (h : mz_H) (j0 : Int64) : mz_Res Int64 :=
  mz_call (fn_X3_powerOf h j0) fun v1 h =>
  if 0 < (-v1) then
    if 64 ≤ (-v1) then
      fn_X3_floorOf_b28 h j0 (-v1) 0
    else
      mz_call (fn_X3_digitsOf h j0) fun v2 h =>
      fn_X3_floorOf_b28 h j0 (-v1) (mz_ushr v2 (-v1))
  else
    mz_ret j0 h
set_option maxHeartbeats 4000000 in
set_option maxRecDepth 100000 in
theorem pf_X3_floorOf_b0 (r : Int64) (Y : mz_Y p g RX3 cX3_floorOf 6 (some .long) "floorOf" (mz_AF h0) s m args meth c) (h : mz_H) (j0 : Int64) (dc ds : Nat) (hr : fn_X3_floorOf h j0 = some (r, hf, dc, ds)) : mz_Go l g p e s m args below meth c 2 52 DC DS h0 (some (Value.long r)) hf 6 0 [(0, true, .long j0)] [] h dc ds := by
  unfold fn_X3_floorOf at hr
  intro H locs cells slots ls hH hS hl hc hs
  have X := Y.1
  refine lv_lload_n X.1 X.2.1 dX3_floorOf_0 rfl (mz_at hl 0 rfl) ?_
  refine mz_kS Value.int X hH hS hl.1.1 [.long j0] [] hr (ct_X3_powerOf l g h j0) mb_RX3_42 im_X3_powerOf rfl (Nat.le_of_ble_eq_true rfl) ⟨Nat.le_of_ble_eq_true rfl, Nat.le_of_ble_eq_true rfl⟩ hc hs dX3_floorOf_1 rfl (fun v1 h H locs cells slots dc ds hr hH hS hc hs => ?_)
  refine lv_ineg X.1 X.2.1 dX3_floorOf_4 ?_
  refine mz_istore_n X [(2, false, .int (-v1)), (0, true, .long j0)] dX3_floorOf_5 rfl hl (by decide) rfl (fun ls hl => ?_)
  refine lv_iload_n X.1 X.2.1 dX3_floorOf_6 rfl (mz_at hl 0 rfl) ?_
  refine mz_if_gt X 12 dX3_floorOf_7 (by decide) hr (fun hr => ?_) (fun hr => ?_)
  · refine lv_iload_n X.1 X.2.1 dX3_floorOf_12 rfl (mz_at hl 0 rfl) ?_
    refine lv_bipush (v := 64) X.1 X.2.1 dX3_floorOf_13 (by decide) ?_
    refine mz_icmp_ge X 27 dX3_floorOf_15 (by decide) hr (fun hr => ?_) (fun hr => ?_)
    · refine lv_lconst (v := 0) X.1 X.2.1 dX3_floorOf_27 (by decide) ?_
      exact pf_X3_floorOf_b28 r Y h j0 (-v1) 0 _ _ hr H locs cells slots ls hH hS (mz_sub hl [1, 0] rfl) hc hs
    · refine lv_lload_n X.1 X.2.1 dX3_floorOf_18 rfl (mz_at hl 1 rfl) ?_
      refine mz_kS Value.long X hH hS hl.1.1 [.long j0] [] hr (ct_X3_digitsOf l g h j0) mb_RX3_46 im_X3_digitsOf rfl (Nat.le_of_ble_eq_true rfl) ⟨Nat.le_of_ble_eq_true rfl, Nat.le_of_ble_eq_true rfl⟩ hc hs dX3_floorOf_19 rfl (fun v2 h H locs cells slots dc ds hr hH hS hc hs => ?_)
      refine lv_iload_n X.1 X.2.1 dX3_floorOf_22 rfl (mz_at hl 0 rfl) ?_
      refine lv_lushr (v := (mz_ushr v2 (-v1))) X.1 X.2.1 dX3_floorOf_23 rfl ?_
      refine lv_goto (tgt := 28) X.1 X.2.1 dX3_floorOf_24 (by decide) ?_
      exact pf_X3_floorOf_b28 r Y h j0 (-v1) (mz_ushr v2 (-v1)) _ _ hr H locs cells slots ls hH hS (mz_sub hl [1, 0] rfl) hc hs
  · refine lv_lload_n X.1 X.2.1 dX3_floorOf_10 rfl (mz_at hl 1 rfl) ?_
    exact mz_lret Y dX3_floorOf_11 hH hS hc hs hr
set_option maxRecDepth 100000 in
theorem ct_X3_floorOf (l : Launch) (g : mz_G) (h : mz_H) (j0 : Int64) (r : Int64) (hf : mz_H) (k n : Nat) (hr : fn_X3_floorOf h j0 = some (r, hf, k, n)) : mz_C l g yX3_floorOf cX3_floorOf 6 (some .long) 2 52 [.long j0] h (some (Value.long r)) hf k n := by
  refine mz_met (as := [(true, .long j0)]) (plainFor_of_name (by decide)) (mz_c1 rfl mz_c0) (Nat.le_of_ble_eq_true rfl) ?_
  intro p e s m args below meth c Y
  exact pf_X3_floorOf_b0 r Y h j0 _ _ hr
theorem dX3_nearestWhole_0 : decode cX3_nearestWhole 0 = .ok (.lload_n 0, 1) := by decide +kernel
theorem dX3_nearestWhole_1 : decode cX3_nearestWhole 1 = .ok (.invokestatic 42, 3) := by decide +kernel
theorem dX3_nearestWhole_4 : decode cX3_nearestWhole 4 = .ok (.ineg, 1) := by decide +kernel
theorem dX3_nearestWhole_5 : decode cX3_nearestWhole 5 = .ok (.istore_n 2, 1) := by decide +kernel
theorem dX3_nearestWhole_6 : decode cX3_nearestWhole 6 = .ok (.iload_n 2, 1) := by decide +kernel
theorem dX3_nearestWhole_7 : decode cX3_nearestWhole 7 = .ok (.ifCond .gt 7, 3) := by decide +kernel
theorem dX3_nearestWhole_10 : decode cX3_nearestWhole 10 = .ok (.lload_n 0, 1) := by decide +kernel
theorem dX3_nearestWhole_11 : decode cX3_nearestWhole 11 = .ok (.goto 23, 3) := by decide +kernel
theorem dX3_nearestWhole_14 : decode cX3_nearestWhole 14 = .ok (.lload_n 0, 1) := by decide +kernel
theorem dX3_nearestWhole_15 : decode cX3_nearestWhole 15 = .ok (.ldc2_w 33, 3) := by decide +kernel
theorem dX3_nearestWhole_18 : decode cX3_nearestWhole 18 = .ok (.land, 1) := by decide +kernel
theorem dX3_nearestWhole_19 : decode cX3_nearestWhole 19 = .ok (.lload_n 0, 1) := by decide +kernel
theorem dX3_nearestWhole_20 : decode cX3_nearestWhole 20 = .ok (.invokestatic 46, 3) := by decide +kernel
theorem dX3_nearestWhole_23 : decode cX3_nearestWhole 23 = .ok (.iload_n 2, 1) := by decide +kernel
theorem dX3_nearestWhole_24 : decode cX3_nearestWhole 24 = .ok (.invokestatic 56, 3) := by decide +kernel
theorem dX3_nearestWhole_27 : decode cX3_nearestWhole 27 = .ok (.iconst 0, 1) := by decide +kernel
theorem dX3_nearestWhole_28 : decode cX3_nearestWhole 28 = .ok (.sipush 1024, 3) := by decide +kernel
theorem dX3_nearestWhole_31 : decode cX3_nearestWhole 31 = .ok (.invokestatic 52, 3) := by decide +kernel
theorem dX3_nearestWhole_34 : decode cX3_nearestWhole 34 = .ok (.lreturn, 1) := by decide +kernel
def fn_X3_nearestWhole (h : mz_H) (j0 : Int64) : mz_Res Int64 :=
  mz_call (fn_X3_powerOf h j0) fun v1 h =>
  if 0 < (-v1) then
    mz_call (fn_X3_digitsOf h j0) fun v2 h =>
    mz_call (fn_X3_withoutDigits h v2 (-v1)) fun v3 h =>
    mz_call (fn_X3_packed h (j0 &&& (-9223372036854775808)) v3 0 1024) fun v4 h =>
    mz_ret v4 h
  else
    mz_ret j0 h
set_option maxHeartbeats 4000000 in
set_option maxRecDepth 100000 in
theorem pf_X3_nearestWhole_b0 (r : Int64) (Y : mz_Y p g RX3 cX3_nearestWhole 3 (some .long) "nearestWhole" (mz_AF h0) s m args meth c) (h : mz_H) (j0 : Int64) (dc ds : Nat) (hr : fn_X3_nearestWhole h j0 = some (r, hf, dc, ds)) : mz_Go l g p e s m args below meth c 2 52 DC DS h0 (some (Value.long r)) hf 3 0 [(0, true, .long j0)] [] h dc ds := by
  unfold fn_X3_nearestWhole at hr
  intro H locs cells slots ls hH hS hl hc hs
  have X := Y.1
  refine lv_lload_n X.1 X.2.1 dX3_nearestWhole_0 rfl (mz_at hl 0 rfl) ?_
  refine mz_kS Value.int X hH hS hl.1.1 [.long j0] [] hr (ct_X3_powerOf l g h j0) mb_RX3_42 im_X3_powerOf rfl (Nat.le_of_ble_eq_true rfl) ⟨Nat.le_of_ble_eq_true rfl, Nat.le_of_ble_eq_true rfl⟩ hc hs dX3_nearestWhole_1 rfl (fun v1 h H locs cells slots dc ds hr hH hS hc hs => ?_)
  refine lv_ineg X.1 X.2.1 dX3_nearestWhole_4 ?_
  refine mz_istore_n X [(2, false, .int (-v1)), (0, true, .long j0)] dX3_nearestWhole_5 rfl hl (by decide) rfl (fun ls hl => ?_)
  refine lv_iload_n X.1 X.2.1 dX3_nearestWhole_6 rfl (mz_at hl 0 rfl) ?_
  refine mz_if_gt X 14 dX3_nearestWhole_7 (by decide) hr (fun hr => ?_) (fun hr => ?_)
  · refine lv_lload_n X.1 X.2.1 dX3_nearestWhole_14 rfl (mz_at hl 1 rfl) ?_
    refine mz_ldc2 (v := (-9223372036854775808)) X (mz_tb 683 (by decide +kernel) rfl) dX3_nearestWhole_15 ?_
    refine lv_land X.1 X.2.1 dX3_nearestWhole_18 ?_
    refine lv_lload_n X.1 X.2.1 dX3_nearestWhole_19 rfl (mz_at hl 1 rfl) ?_
    refine mz_kS Value.long X hH hS hl.1.1 [.long j0] [.long (j0 &&& (-9223372036854775808))] hr (ct_X3_digitsOf l g h j0) mb_RX3_46 im_X3_digitsOf rfl (Nat.le_of_ble_eq_true rfl) ⟨Nat.le_of_ble_eq_true rfl, Nat.le_of_ble_eq_true rfl⟩ hc hs dX3_nearestWhole_20 rfl (fun v2 h H locs cells slots dc ds hr hH hS hc hs => ?_)
    refine lv_iload_n X.1 X.2.1 dX3_nearestWhole_23 rfl (mz_at hl 0 rfl) ?_
    refine mz_kS Value.long X hH hS hl.1.1 [.long v2, .int (-v1)] [.long (j0 &&& (-9223372036854775808))] hr (ct_X3_withoutDigits l g h v2 (-v1)) mb_RX3_56 im_X3_withoutDigits rfl (Nat.le_of_ble_eq_true rfl) ⟨Nat.le_of_ble_eq_true rfl, Nat.le_of_ble_eq_true rfl⟩ hc hs dX3_nearestWhole_24 rfl (fun v3 h H locs cells slots dc ds hr hH hS hc hs => ?_)
    refine lv_iconst (v := 0) X.1 X.2.1 dX3_nearestWhole_27 (by decide) ?_
    refine lv_sipush (v := 1024) X.1 X.2.1 dX3_nearestWhole_28 (by decide) ?_
    refine mz_kS Value.long X hH hS hl.1.1 [.long (j0 &&& (-9223372036854775808)), .long v3, .int 0, .int 1024] [] hr (ct_X3_packed l g h (j0 &&& (-9223372036854775808)) v3 0 1024) mb_RX3_52 im_X3_packed rfl (Nat.le_of_ble_eq_true rfl) ⟨Nat.le_of_ble_eq_true rfl, Nat.le_of_ble_eq_true rfl⟩ hc hs dX3_nearestWhole_31 rfl (fun v4 h H locs cells slots dc ds hr hH hS hc hs => ?_)
    exact mz_lret Y dX3_nearestWhole_34 hH hS hc hs hr
  · refine lv_lload_n X.1 X.2.1 dX3_nearestWhole_10 rfl (mz_at hl 1 rfl) ?_
    refine lv_goto (tgt := 34) X.1 X.2.1 dX3_nearestWhole_11 (by decide) ?_
    exact mz_lret Y dX3_nearestWhole_34 hH hS hc hs hr
set_option maxRecDepth 100000 in
theorem ct_X3_nearestWhole (l : Launch) (g : mz_G) (h : mz_H) (j0 : Int64) (r : Int64) (hf : mz_H) (k n : Nat) (hr : fn_X3_nearestWhole h j0 = some (r, hf, k, n)) : mz_C l g yX3_nearestWhole cX3_nearestWhole 3 (some .long) 2 52 [.long j0] h (some (Value.long r)) hf k n := by
  refine mz_met (as := [(true, .long j0)]) (plainFor_of_name (by decide)) (mz_c1 rfl mz_c0) (Nat.le_of_ble_eq_true rfl) ?_
  intro p e s m args below meth c Y
  exact pf_X3_nearestWhole_b0 r Y h j0 _ _ hr
theorem dX3_wholeOf_0 : decode cX3_wholeOf 0 = .ok (.lload_n 0, 1) := by decide +kernel
theorem dX3_wholeOf_1 : decode cX3_wholeOf 1 = .ok (.invokestatic 42, 3) := by decide +kernel
theorem dX3_wholeOf_4 : decode cX3_wholeOf 4 = .ok (.istore_n 2, 1) := by decide +kernel
theorem dX3_wholeOf_5 : decode cX3_wholeOf 5 = .ok (.iload_n 2, 1) := by decide +kernel
theorem dX3_wholeOf_6 : decode cX3_wholeOf 6 = .ok (.bipush 10, 2) := by decide +kernel
theorem dX3_wholeOf_8 : decode cX3_wholeOf 8 = .ok (.if_icmp .le 19, 3) := by decide +kernel
theorem dX3_wholeOf_11 : decode cX3_wholeOf 11 = .ok (.lload_n 0, 1) := by decide +kernel
theorem dX3_wholeOf_12 : decode cX3_wholeOf 12 = .ok (.lconst 0, 1) := by decide +kernel
theorem dX3_wholeOf_13 : decode cX3_wholeOf 13 = .ok (.lcmp, 1) := by decide +kernel
theorem dX3_wholeOf_14 : decode cX3_wholeOf 14 = .ok (.ifCond .ge 9, 3) := by decide +kernel
theorem dX3_wholeOf_17 : decode cX3_wholeOf 17 = .ok (.ldc2_w 33, 3) := by decide +kernel
theorem dX3_wholeOf_20 : decode cX3_wholeOf 20 = .ok (.goto 6, 3) := by decide +kernel
theorem dX3_wholeOf_23 : decode cX3_wholeOf 23 = .ok (.ldc2_w 31, 3) := by decide +kernel
theorem dX3_wholeOf_26 : decode cX3_wholeOf 26 = .ok (.lreturn, 1) := by decide +kernel
theorem dX3_wholeOf_27 : decode cX3_wholeOf 27 = .ok (.iload_n 2, 1) := by decide +kernel
theorem dX3_wholeOf_28 : decode cX3_wholeOf 28 = .ok (.ifCond .lt 12, 3) := by decide +kernel
theorem dX3_wholeOf_31 : decode cX3_wholeOf 31 = .ok (.lload_n 0, 1) := by decide +kernel
theorem dX3_wholeOf_32 : decode cX3_wholeOf 32 = .ok (.invokestatic 46, 3) := by decide +kernel
theorem dX3_wholeOf_35 : decode cX3_wholeOf 35 = .ok (.iload_n 2, 1) := by decide +kernel
theorem dX3_wholeOf_36 : decode cX3_wholeOf 36 = .ok (.lshl, 1) := by decide +kernel
theorem dX3_wholeOf_37 : decode cX3_wholeOf 37 = .ok (.goto 20, 3) := by decide +kernel
theorem dX3_wholeOf_40 : decode cX3_wholeOf 40 = .ok (.iload_n 2, 1) := by decide +kernel
theorem dX3_wholeOf_41 : decode cX3_wholeOf 41 = .ok (.bipush (-64), 2) := by decide +kernel
theorem dX3_wholeOf_43 : decode cX3_wholeOf 43 = .ok (.if_icmp .le 13, 3) := by decide +kernel
theorem dX3_wholeOf_46 : decode cX3_wholeOf 46 = .ok (.lload_n 0, 1) := by decide +kernel
theorem dX3_wholeOf_47 : decode cX3_wholeOf 47 = .ok (.invokestatic 46, 3) := by decide +kernel
theorem dX3_wholeOf_50 : decode cX3_wholeOf 50 = .ok (.iload_n 2, 1) := by decide +kernel
theorem dX3_wholeOf_51 : decode cX3_wholeOf 51 = .ok (.ineg, 1) := by decide +kernel
theorem dX3_wholeOf_52 : decode cX3_wholeOf 52 = .ok (.lushr, 1) := by decide +kernel
theorem dX3_wholeOf_53 : decode cX3_wholeOf 53 = .ok (.goto 4, 3) := by decide +kernel
theorem dX3_wholeOf_56 : decode cX3_wholeOf 56 = .ok (.lconst 0, 1) := by decide +kernel
theorem dX3_wholeOf_57 : decode cX3_wholeOf 57 = .ok (.lstore_n 3, 1) := by decide +kernel
theorem dX3_wholeOf_58 : decode cX3_wholeOf 58 = .ok (.lload_n 0, 1) := by decide +kernel
theorem dX3_wholeOf_59 : decode cX3_wholeOf 59 = .ok (.lconst 0, 1) := by decide +kernel
theorem dX3_wholeOf_60 : decode cX3_wholeOf 60 = .ok (.lcmp, 1) := by decide +kernel
theorem dX3_wholeOf_61 : decode cX3_wholeOf 61 = .ok (.ifCond .ge 8, 3) := by decide +kernel
theorem dX3_wholeOf_64 : decode cX3_wholeOf 64 = .ok (.lload_n 3, 1) := by decide +kernel
theorem dX3_wholeOf_65 : decode cX3_wholeOf 65 = .ok (.lneg, 1) := by decide +kernel
theorem dX3_wholeOf_66 : decode cX3_wholeOf 66 = .ok (.goto 4, 3) := by decide +kernel
theorem dX3_wholeOf_69 : decode cX3_wholeOf 69 = .ok (.lload_n 3, 1) := by decide +kernel
theorem dX3_wholeOf_70 : decode cX3_wholeOf 70 = .ok (.lreturn, 1) := by decide +kernel
def fn_X3_wholeOf_b57 (h : mz_H) (j0 : Int64) (s0 : Int64) : mz_Res Int64 :=
  if 0 ≤ (lg_cmp j0 0) then
    mz_ret s0 h
  else
    mz_ret (-s0) h
set_option maxHeartbeats 4000000 in
set_option maxRecDepth 100000 in
theorem pf_X3_wholeOf_b57 (r : Int64) (Y : mz_Y p g RX3 cX3_wholeOf 5 (some .long) "wholeOf" (mz_AF h0) s m args meth c) (h : mz_H) (j0 : Int64) (s0 : Int64) (dc ds : Nat) (hr : fn_X3_wholeOf_b57 h j0 s0 = some (r, hf, dc, ds)) : mz_Go l g p e s m args below meth c 2 43 DC DS h0 (some (Value.long r)) hf 5 57 [(0, true, .long j0)] [.long s0] h dc ds := by
  unfold fn_X3_wholeOf_b57 at hr
  intro H locs cells slots ls hH hS hl hc hs
  have X := Y.1
  refine mz_lstore_n X [(3, true, .long s0), (0, true, .long j0)] dX3_wholeOf_57 rfl hl (by decide) rfl (fun ls hl => ?_)
  refine lv_lload_n X.1 X.2.1 dX3_wholeOf_58 rfl (mz_at hl 1 rfl) ?_
  refine lv_lconst (v := 0) X.1 X.2.1 dX3_wholeOf_59 (by decide) ?_
  refine W.lcmp X.1 X.2.1 dX3_wholeOf_60 ?_
  refine mz_if_ge X 69 dX3_wholeOf_61 (by decide) hr (fun hr => ?_) (fun hr => ?_)
  · refine lv_lload_n X.1 X.2.1 dX3_wholeOf_69 rfl (mz_at hl 0 rfl) ?_
    exact mz_lret Y dX3_wholeOf_70 hH hS hc hs hr
  · refine lv_lload_n X.1 X.2.1 dX3_wholeOf_64 rfl (mz_at hl 0 rfl) ?_
    refine lv_lneg X.1 X.2.1 dX3_wholeOf_65 ?_
    refine lv_goto (tgt := 70) X.1 X.2.1 dX3_wholeOf_66 (by decide) ?_
    exact mz_lret Y dX3_wholeOf_70 hH hS hc hs hr
def fn_X3_wholeOf (h : mz_H) (j0 : Int64) : mz_Res Int64 :=
  mz_call (fn_X3_powerOf h j0) fun v1 h =>
  if v1 ≤ 10 then
    if v1 < 0 then
      if v1 ≤ (-64) then
        fn_X3_wholeOf_b57 h j0 0
      else
        mz_call (fn_X3_digitsOf h j0) fun v2 h =>
        fn_X3_wholeOf_b57 h j0 (mz_ushr v2 (-v1))
    else
      mz_call (fn_X3_digitsOf h j0) fun v3 h =>
      fn_X3_wholeOf_b57 h j0 (mz_shl v3 v1)
  else
    if 0 ≤ (lg_cmp j0 0) then
      mz_ret 9223372036854775807 h
    else
      mz_ret (-9223372036854775808) h
set_option maxHeartbeats 4000000 in
set_option maxRecDepth 100000 in
theorem pf_X3_wholeOf_b0 (r : Int64) (Y : mz_Y p g RX3 cX3_wholeOf 5 (some .long) "wholeOf" (mz_AF h0) s m args meth c) (h : mz_H) (j0 : Int64) (dc ds : Nat) (hr : fn_X3_wholeOf h j0 = some (r, hf, dc, ds)) : mz_Go l g p e s m args below meth c 2 43 DC DS h0 (some (Value.long r)) hf 5 0 [(0, true, .long j0)] [] h dc ds := by
  unfold fn_X3_wholeOf at hr
  intro H locs cells slots ls hH hS hl hc hs
  have X := Y.1
  refine lv_lload_n X.1 X.2.1 dX3_wholeOf_0 rfl (mz_at hl 0 rfl) ?_
  refine mz_kS Value.int X hH hS hl.1.1 [.long j0] [] hr (ct_X3_powerOf l g h j0) mb_RX3_42 im_X3_powerOf rfl (Nat.le_of_ble_eq_true rfl) ⟨Nat.le_of_ble_eq_true rfl, Nat.le_of_ble_eq_true rfl⟩ hc hs dX3_wholeOf_1 rfl (fun v1 h H locs cells slots dc ds hr hH hS hc hs => ?_)
  refine mz_istore_n X [(2, false, .int v1), (0, true, .long j0)] dX3_wholeOf_4 rfl hl (by decide) rfl (fun ls hl => ?_)
  refine lv_iload_n X.1 X.2.1 dX3_wholeOf_5 rfl (mz_at hl 0 rfl) ?_
  refine lv_bipush (v := 10) X.1 X.2.1 dX3_wholeOf_6 (by decide) ?_
  refine mz_icmp_le X 27 dX3_wholeOf_8 (by decide) hr (fun hr => ?_) (fun hr => ?_)
  · refine lv_iload_n X.1 X.2.1 dX3_wholeOf_27 rfl (mz_at hl 0 rfl) ?_
    refine mz_if_lt X 40 dX3_wholeOf_28 (by decide) hr (fun hr => ?_) (fun hr => ?_)
    · refine lv_iload_n X.1 X.2.1 dX3_wholeOf_40 rfl (mz_at hl 0 rfl) ?_
      refine lv_bipush (v := (-64)) X.1 X.2.1 dX3_wholeOf_41 (by decide) ?_
      refine mz_icmp_le X 56 dX3_wholeOf_43 (by decide) hr (fun hr => ?_) (fun hr => ?_)
      · refine lv_lconst (v := 0) X.1 X.2.1 dX3_wholeOf_56 (by decide) ?_
        exact pf_X3_wholeOf_b57 r Y h j0 0 _ _ hr H locs cells slots ls hH hS (mz_sub hl [1] rfl) hc hs
      · refine lv_lload_n X.1 X.2.1 dX3_wholeOf_46 rfl (mz_at hl 1 rfl) ?_
        refine mz_kS Value.long X hH hS hl.1.1 [.long j0] [] hr (ct_X3_digitsOf l g h j0) mb_RX3_46 im_X3_digitsOf rfl (Nat.le_of_ble_eq_true rfl) ⟨Nat.le_of_ble_eq_true rfl, Nat.le_of_ble_eq_true rfl⟩ hc hs dX3_wholeOf_47 rfl (fun v2 h H locs cells slots dc ds hr hH hS hc hs => ?_)
        refine lv_iload_n X.1 X.2.1 dX3_wholeOf_50 rfl (mz_at hl 0 rfl) ?_
        refine lv_ineg X.1 X.2.1 dX3_wholeOf_51 ?_
        refine lv_lushr (v := (mz_ushr v2 (-v1))) X.1 X.2.1 dX3_wholeOf_52 rfl ?_
        refine lv_goto (tgt := 57) X.1 X.2.1 dX3_wholeOf_53 (by decide) ?_
        exact pf_X3_wholeOf_b57 r Y h j0 (mz_ushr v2 (-v1)) _ _ hr H locs cells slots ls hH hS (mz_sub hl [1] rfl) hc hs
    · refine lv_lload_n X.1 X.2.1 dX3_wholeOf_31 rfl (mz_at hl 1 rfl) ?_
      refine mz_kS Value.long X hH hS hl.1.1 [.long j0] [] hr (ct_X3_digitsOf l g h j0) mb_RX3_46 im_X3_digitsOf rfl (Nat.le_of_ble_eq_true rfl) ⟨Nat.le_of_ble_eq_true rfl, Nat.le_of_ble_eq_true rfl⟩ hc hs dX3_wholeOf_32 rfl (fun v3 h H locs cells slots dc ds hr hH hS hc hs => ?_)
      refine lv_iload_n X.1 X.2.1 dX3_wholeOf_35 rfl (mz_at hl 0 rfl) ?_
      refine lv_lshl (v := (mz_shl v3 v1)) X.1 X.2.1 dX3_wholeOf_36 rfl ?_
      refine lv_goto (tgt := 57) X.1 X.2.1 dX3_wholeOf_37 (by decide) ?_
      exact pf_X3_wholeOf_b57 r Y h j0 (mz_shl v3 v1) _ _ hr H locs cells slots ls hH hS (mz_sub hl [1] rfl) hc hs
  · refine lv_lload_n X.1 X.2.1 dX3_wholeOf_11 rfl (mz_at hl 1 rfl) ?_
    refine lv_lconst (v := 0) X.1 X.2.1 dX3_wholeOf_12 (by decide) ?_
    refine W.lcmp X.1 X.2.1 dX3_wholeOf_13 ?_
    refine mz_if_ge X 23 dX3_wholeOf_14 (by decide) hr (fun hr => ?_) (fun hr => ?_)
    · refine mz_ldc2 (v := 9223372036854775807) X (mz_tb 677 (by decide +kernel) rfl) dX3_wholeOf_23 ?_
      exact mz_lret Y dX3_wholeOf_26 hH hS hc hs hr
    · refine mz_ldc2 (v := (-9223372036854775808)) X (mz_tb 683 (by decide +kernel) rfl) dX3_wholeOf_17 ?_
      refine lv_goto (tgt := 26) X.1 X.2.1 dX3_wholeOf_20 (by decide) ?_
      exact mz_lret Y dX3_wholeOf_26 hH hS hc hs hr
set_option maxRecDepth 100000 in
theorem ct_X3_wholeOf (l : Launch) (g : mz_G) (h : mz_H) (j0 : Int64) (r : Int64) (hf : mz_H) (k n : Nat) (hr : fn_X3_wholeOf h j0 = some (r, hf, k, n)) : mz_C l g yX3_wholeOf cX3_wholeOf 5 (some .long) 2 43 [.long j0] h (some (Value.long r)) hf k n := by
  refine mz_met (as := [(true, .long j0)]) (plainFor_of_name (by decide)) (mz_c1 rfl mz_c0) (Nat.le_of_ble_eq_true rfl) ?_
  intro p e s m args below meth c Y
  exact pf_X3_wholeOf_b0 r Y h j0 _ _ hr
theorem dX3_shiftedDown_0 : decode cX3_shiftedDown 0 = .ok (.iload_n 2, 1) := by decide +kernel
theorem dX3_shiftedDown_1 : decode cX3_shiftedDown 1 = .ok (.bipush 62, 2) := by decide +kernel
theorem dX3_shiftedDown_3 : decode cX3_shiftedDown 3 = .ok (.if_icmp .le 15, 3) := by decide +kernel
theorem dX3_shiftedDown_6 : decode cX3_shiftedDown 6 = .ok (.lload_n 0, 1) := by decide +kernel
theorem dX3_shiftedDown_7 : decode cX3_shiftedDown 7 = .ok (.lconst 0, 1) := by decide +kernel
theorem dX3_shiftedDown_8 : decode cX3_shiftedDown 8 = .ok (.lcmp, 1) := by decide +kernel
theorem dX3_shiftedDown_9 : decode cX3_shiftedDown 9 = .ok (.ifCond .ne 7, 3) := by decide +kernel
theorem dX3_shiftedDown_12 : decode cX3_shiftedDown 12 = .ok (.lconst 0, 1) := by decide +kernel
theorem dX3_shiftedDown_13 : decode cX3_shiftedDown 13 = .ok (.goto 4, 3) := by decide +kernel
theorem dX3_shiftedDown_16 : decode cX3_shiftedDown 16 = .ok (.lconst 1, 1) := by decide +kernel
theorem dX3_shiftedDown_17 : decode cX3_shiftedDown 17 = .ok (.lreturn, 1) := by decide +kernel
theorem dX3_shiftedDown_18 : decode cX3_shiftedDown 18 = .ok (.lload_n 0, 1) := by decide +kernel
theorem dX3_shiftedDown_19 : decode cX3_shiftedDown 19 = .ok (.iload_n 2, 1) := by decide +kernel
theorem dX3_shiftedDown_20 : decode cX3_shiftedDown 20 = .ok (.lushr, 1) := by decide +kernel
theorem dX3_shiftedDown_21 : decode cX3_shiftedDown 21 = .ok (.lstore_n 3, 1) := by decide +kernel
theorem dX3_shiftedDown_22 : decode cX3_shiftedDown 22 = .ok (.lload_n 3, 1) := by decide +kernel
theorem dX3_shiftedDown_23 : decode cX3_shiftedDown 23 = .ok (.iload_n 2, 1) := by decide +kernel
theorem dX3_shiftedDown_24 : decode cX3_shiftedDown 24 = .ok (.lshl, 1) := by decide +kernel
theorem dX3_shiftedDown_25 : decode cX3_shiftedDown 25 = .ok (.lload_n 0, 1) := by decide +kernel
theorem dX3_shiftedDown_26 : decode cX3_shiftedDown 26 = .ok (.lcmp, 1) := by decide +kernel
theorem dX3_shiftedDown_27 : decode cX3_shiftedDown 27 = .ok (.ifCond .ne 7, 3) := by decide +kernel
theorem dX3_shiftedDown_30 : decode cX3_shiftedDown 30 = .ok (.lload_n 3, 1) := by decide +kernel
theorem dX3_shiftedDown_31 : decode cX3_shiftedDown 31 = .ok (.goto 6, 3) := by decide +kernel
theorem dX3_shiftedDown_34 : decode cX3_shiftedDown 34 = .ok (.lload_n 3, 1) := by decide +kernel
theorem dX3_shiftedDown_35 : decode cX3_shiftedDown 35 = .ok (.lconst 1, 1) := by decide +kernel
theorem dX3_shiftedDown_36 : decode cX3_shiftedDown 36 = .ok (.lor, 1) := by decide +kernel
theorem dX3_shiftedDown_37 : decode cX3_shiftedDown 37 = .ok (.lreturn, 1) := by decide +kernel
def fn_X3_shiftedDown (h : mz_H) (j0 : Int64) (x2 : Int32) : mz_Res Int64 :=
  if x2 ≤ 62 then
    mz_op (some (mz_ushr j0 x2)) fun v1 =>
    if (lg_cmp (mz_shl v1 x2) j0) = 0 then
      mz_ret v1 h
    else
      mz_ret (v1 ||| 1) h
  else
    if (lg_cmp j0 0) = 0 then
      mz_ret 0 h
    else
      mz_ret 1 h
set_option maxHeartbeats 4000000 in
set_option maxRecDepth 100000 in
theorem pf_X3_shiftedDown_b0 (r : Int64) (Y : mz_Y p g RX3 cX3_shiftedDown 5 (some .long) "shiftedDown" (mz_AF h0) s m args meth c) (h : mz_H) (j0 : Int64) (x2 : Int32) (dc ds : Nat) (hr : fn_X3_shiftedDown h j0 x2 = some (r, hf, dc, ds)) : mz_Go l g p e s m args below meth c 0 0 DC DS h0 (some (Value.long r)) hf 5 0 [(0, true, .long j0), (2, false, .int x2)] [] h dc ds := by
  unfold fn_X3_shiftedDown at hr
  intro H locs cells slots ls hH hS hl hc hs
  have X := Y.1
  refine lv_iload_n X.1 X.2.1 dX3_shiftedDown_0 rfl (mz_at hl 1 rfl) ?_
  refine lv_bipush (v := 62) X.1 X.2.1 dX3_shiftedDown_1 (by decide) ?_
  refine mz_icmp_le X 18 dX3_shiftedDown_3 (by decide) hr (fun hr => ?_) (fun hr => ?_)
  · refine lv_lload_n X.1 X.2.1 dX3_shiftedDown_18 rfl (mz_at hl 0 rfl) ?_
    refine lv_iload_n X.1 X.2.1 dX3_shiftedDown_19 rfl (mz_at hl 1 rfl) ?_
    refine lv_lushr (v := (mz_ushr j0 x2)) X.1 X.2.1 dX3_shiftedDown_20 rfl ?_
    refine mz_topl hr (fun v1 hv1 hr => ?_)
    refine mz_lstore_n X [(3, true, .long v1), (0, true, .long j0), (2, false, .int x2)] dX3_shiftedDown_21 rfl hl (by decide) rfl (fun ls hl => ?_)
    refine lv_lload_n X.1 X.2.1 dX3_shiftedDown_22 rfl (mz_at hl 0 rfl) ?_
    refine lv_iload_n X.1 X.2.1 dX3_shiftedDown_23 rfl (mz_at hl 2 rfl) ?_
    refine lv_lshl (v := (mz_shl v1 x2)) X.1 X.2.1 dX3_shiftedDown_24 rfl ?_
    refine lv_lload_n X.1 X.2.1 dX3_shiftedDown_25 rfl (mz_at hl 1 rfl) ?_
    refine W.lcmp X.1 X.2.1 dX3_shiftedDown_26 ?_
    refine mz_if_ne X 34 dX3_shiftedDown_27 (by decide) hr (fun hr => ?_) (fun hr => ?_)
    · refine lv_lload_n X.1 X.2.1 dX3_shiftedDown_34 rfl (mz_at hl 0 rfl) ?_
      refine lv_lconst (v := 1) X.1 X.2.1 dX3_shiftedDown_35 (by decide) ?_
      refine lv_lor X.1 X.2.1 dX3_shiftedDown_36 ?_
      exact mz_lret Y dX3_shiftedDown_37 hH hS hc hs hr
    · refine lv_lload_n X.1 X.2.1 dX3_shiftedDown_30 rfl (mz_at hl 0 rfl) ?_
      refine lv_goto (tgt := 37) X.1 X.2.1 dX3_shiftedDown_31 (by decide) ?_
      exact mz_lret Y dX3_shiftedDown_37 hH hS hc hs hr
  · refine lv_lload_n X.1 X.2.1 dX3_shiftedDown_6 rfl (mz_at hl 0 rfl) ?_
    refine lv_lconst (v := 0) X.1 X.2.1 dX3_shiftedDown_7 (by decide) ?_
    refine W.lcmp X.1 X.2.1 dX3_shiftedDown_8 ?_
    refine mz_if_ne X 16 dX3_shiftedDown_9 (by decide) hr (fun hr => ?_) (fun hr => ?_)
    · refine lv_lconst (v := 1) X.1 X.2.1 dX3_shiftedDown_16 (by decide) ?_
      exact mz_lret Y dX3_shiftedDown_17 hH hS hc hs hr
    · refine lv_lconst (v := 0) X.1 X.2.1 dX3_shiftedDown_12 (by decide) ?_
      refine lv_goto (tgt := 17) X.1 X.2.1 dX3_shiftedDown_13 (by decide) ?_
      exact mz_lret Y dX3_shiftedDown_17 hH hS hc hs hr
set_option maxRecDepth 100000 in
theorem ct_X3_shiftedDown (l : Launch) (g : mz_G) (h : mz_H) (j0 : Int64) (x2 : Int32) (r : Int64) (hf : mz_H) (k n : Nat) (hr : fn_X3_shiftedDown h j0 x2 = some (r, hf, k, n)) : mz_C l g yX3_shiftedDown cX3_shiftedDown 5 (some .long) 0 0 [.long j0, .int x2] h (some (Value.long r)) hf k n := by
  refine mz_met (as := [(true, .long j0), (false, .int x2)]) (plainFor_of_name (by decide)) (mz_c1 rfl (mz_c1 rfl mz_c0)) (Nat.le_of_ble_eq_true rfl) ?_
  intro p e s m args below meth c Y
  exact pf_X3_shiftedDown_b0 r Y h j0 x2 _ _ hr
theorem dX3_sum_0 : decode cX3_sum 0 = .ok (.lload_n 0, 1) := by decide +kernel
theorem dX3_sum_1 : decode cX3_sum 1 = .ok (.ldc2_w 31, 3) := by decide +kernel
theorem dX3_sum_4 : decode cX3_sum 4 = .ok (.land, 1) := by decide +kernel
theorem dX3_sum_5 : decode cX3_sum 5 = .ok (.lload_n 2, 1) := by decide +kernel
theorem dX3_sum_6 : decode cX3_sum 6 = .ok (.ldc2_w 31, 3) := by decide +kernel
theorem dX3_sum_9 : decode cX3_sum 9 = .ok (.land, 1) := by decide +kernel
theorem dX3_sum_10 : decode cX3_sum 10 = .ok (.lcmp, 1) := by decide +kernel
theorem dX3_sum_11 : decode cX3_sum 11 = .ok (.ifCond .lt 7, 3) := by decide +kernel
theorem dX3_sum_14 : decode cX3_sum 14 = .ok (.iconst 1, 1) := by decide +kernel
theorem dX3_sum_15 : decode cX3_sum 15 = .ok (.goto 4, 3) := by decide +kernel
theorem dX3_sum_18 : decode cX3_sum 18 = .ok (.iconst 0, 1) := by decide +kernel
theorem dX3_sum_19 : decode cX3_sum 19 = .ok (.istore 4, 2) := by decide +kernel
theorem dX3_sum_21 : decode cX3_sum 21 = .ok (.iload 4, 2) := by decide +kernel
theorem dX3_sum_23 : decode cX3_sum 23 = .ok (.ifCond .eq 7, 3) := by decide +kernel
theorem dX3_sum_26 : decode cX3_sum 26 = .ok (.lload_n 0, 1) := by decide +kernel
theorem dX3_sum_27 : decode cX3_sum 27 = .ok (.goto 4, 3) := by decide +kernel
theorem dX3_sum_30 : decode cX3_sum 30 = .ok (.lload_n 2, 1) := by decide +kernel
theorem dX3_sum_31 : decode cX3_sum 31 = .ok (.lstore 5, 2) := by decide +kernel
theorem dX3_sum_33 : decode cX3_sum 33 = .ok (.iload 4, 2) := by decide +kernel
theorem dX3_sum_35 : decode cX3_sum 35 = .ok (.ifCond .eq 7, 3) := by decide +kernel
theorem dX3_sum_38 : decode cX3_sum 38 = .ok (.lload_n 2, 1) := by decide +kernel
theorem dX3_sum_39 : decode cX3_sum 39 = .ok (.goto 4, 3) := by decide +kernel
theorem dX3_sum_42 : decode cX3_sum 42 = .ok (.lload_n 0, 1) := by decide +kernel
theorem dX3_sum_43 : decode cX3_sum 43 = .ok (.lstore 7, 2) := by decide +kernel
theorem dX3_sum_45 : decode cX3_sum 45 = .ok (.lload 5, 2) := by decide +kernel
theorem dX3_sum_47 : decode cX3_sum 47 = .ok (.invokestatic 60, 3) := by decide +kernel
theorem dX3_sum_50 : decode cX3_sum 50 = .ok (.ifCond .ne 6, 3) := by decide +kernel
theorem dX3_sum_53 : decode cX3_sum 53 = .ok (.lload 5, 2) := by decide +kernel
theorem dX3_sum_55 : decode cX3_sum 55 = .ok (.lreturn, 1) := by decide +kernel
theorem dX3_sum_56 : decode cX3_sum 56 = .ok (.lload 5, 2) := by decide +kernel
theorem dX3_sum_58 : decode cX3_sum 58 = .ok (.invokestatic 42, 3) := by decide +kernel
theorem dX3_sum_61 : decode cX3_sum 61 = .ok (.istore 9, 2) := by decide +kernel
theorem dX3_sum_63 : decode cX3_sum 63 = .ok (.lload 5, 2) := by decide +kernel
theorem dX3_sum_65 : decode cX3_sum 65 = .ok (.invokestatic 46, 3) := by decide +kernel
theorem dX3_sum_68 : decode cX3_sum 68 = .ok (.bipush 9, 2) := by decide +kernel
theorem dX3_sum_70 : decode cX3_sum 70 = .ok (.lshl, 1) := by decide +kernel
theorem dX3_sum_71 : decode cX3_sum 71 = .ok (.lstore 10, 2) := by decide +kernel
theorem dX3_sum_73 : decode cX3_sum 73 = .ok (.lload 7, 2) := by decide +kernel
theorem dX3_sum_75 : decode cX3_sum 75 = .ok (.invokestatic 46, 3) := by decide +kernel
theorem dX3_sum_78 : decode cX3_sum 78 = .ok (.bipush 9, 2) := by decide +kernel
theorem dX3_sum_80 : decode cX3_sum 80 = .ok (.lshl, 1) := by decide +kernel
theorem dX3_sum_81 : decode cX3_sum 81 = .ok (.iload 9, 2) := by decide +kernel
theorem dX3_sum_83 : decode cX3_sum 83 = .ok (.lload 7, 2) := by decide +kernel
theorem dX3_sum_85 : decode cX3_sum 85 = .ok (.invokestatic 42, 3) := by decide +kernel
theorem dX3_sum_88 : decode cX3_sum 88 = .ok (.isub, 1) := by decide +kernel
theorem dX3_sum_89 : decode cX3_sum 89 = .ok (.invokestatic 63, 3) := by decide +kernel
theorem dX3_sum_92 : decode cX3_sum 92 = .ok (.lstore 12, 2) := by decide +kernel
theorem dX3_sum_94 : decode cX3_sum 94 = .ok (.lload_n 0, 1) := by decide +kernel
theorem dX3_sum_95 : decode cX3_sum 95 = .ok (.lload_n 2, 1) := by decide +kernel
theorem dX3_sum_96 : decode cX3_sum 96 = .ok (.lxor, 1) := by decide +kernel
theorem dX3_sum_97 : decode cX3_sum 97 = .ok (.lconst 0, 1) := by decide +kernel
theorem dX3_sum_98 : decode cX3_sum 98 = .ok (.lcmp, 1) := by decide +kernel
theorem dX3_sum_99 : decode cX3_sum 99 = .ok (.ifCond .lt 7, 3) := by decide +kernel
theorem dX3_sum_102 : decode cX3_sum 102 = .ok (.iconst 1, 1) := by decide +kernel
theorem dX3_sum_103 : decode cX3_sum 103 = .ok (.goto 4, 3) := by decide +kernel
theorem dX3_sum_106 : decode cX3_sum 106 = .ok (.iconst 0, 1) := by decide +kernel
theorem dX3_sum_107 : decode cX3_sum 107 = .ok (.istore 14, 2) := by decide +kernel
theorem dX3_sum_109 : decode cX3_sum 109 = .ok (.iload 14, 2) := by decide +kernel
theorem dX3_sum_111 : decode cX3_sum 111 = .ok (.ifCond .ne 13, 3) := by decide +kernel
theorem dX3_sum_114 : decode cX3_sum 114 = .ok (.lload 10, 2) := by decide +kernel
theorem dX3_sum_116 : decode cX3_sum 116 = .ok (.lload 12, 2) := by decide +kernel
theorem dX3_sum_118 : decode cX3_sum 118 = .ok (.lcmp, 1) := by decide +kernel
theorem dX3_sum_119 : decode cX3_sum 119 = .ok (.ifCond .ne 5, 3) := by decide +kernel
theorem dX3_sum_122 : decode cX3_sum 122 = .ok (.lconst 0, 1) := by decide +kernel
theorem dX3_sum_123 : decode cX3_sum 123 = .ok (.lreturn, 1) := by decide +kernel
theorem dX3_sum_124 : decode cX3_sum 124 = .ok (.lload 5, 2) := by decide +kernel
theorem dX3_sum_126 : decode cX3_sum 126 = .ok (.ldc2_w 33, 3) := by decide +kernel
theorem dX3_sum_129 : decode cX3_sum 129 = .ok (.land, 1) := by decide +kernel
theorem dX3_sum_130 : decode cX3_sum 130 = .ok (.iload 14, 2) := by decide +kernel
theorem dX3_sum_132 : decode cX3_sum 132 = .ok (.ifCond .eq 11, 3) := by decide +kernel
theorem dX3_sum_135 : decode cX3_sum 135 = .ok (.lload 10, 2) := by decide +kernel
theorem dX3_sum_137 : decode cX3_sum 137 = .ok (.lload 12, 2) := by decide +kernel
theorem dX3_sum_139 : decode cX3_sum 139 = .ok (.ladd, 1) := by decide +kernel
theorem dX3_sum_140 : decode cX3_sum 140 = .ok (.goto 8, 3) := by decide +kernel
theorem dX3_sum_143 : decode cX3_sum 143 = .ok (.lload 10, 2) := by decide +kernel
theorem dX3_sum_145 : decode cX3_sum 145 = .ok (.lload 12, 2) := by decide +kernel
theorem dX3_sum_147 : decode cX3_sum 147 = .ok (.lsub, 1) := by decide +kernel
theorem dX3_sum_148 : decode cX3_sum 148 = .ok (.iload 9, 2) := by decide +kernel
theorem dX3_sum_150 : decode cX3_sum 150 = .ok (.bipush 9, 2) := by decide +kernel
theorem dX3_sum_152 : decode cX3_sum 152 = .ok (.isub, 1) := by decide +kernel
theorem dX3_sum_153 : decode cX3_sum 153 = .ok (.iconst 0, 1) := by decide +kernel
theorem dX3_sum_154 : decode cX3_sum 154 = .ok (.invokestatic 38, 3) := by decide +kernel
theorem dX3_sum_157 : decode cX3_sum 157 = .ok (.lreturn, 1) := by decide +kernel
def fn_X3_sum_b148 (h : mz_H) (x9 : Int32) (s0 : Int64) (s1 : Int64) : mz_Res Int64 :=
  mz_call (fn_X3_rounded h s0 s1 (x9 - 9) 0) fun v1 h =>
  mz_ret v1 h
set_option maxHeartbeats 4000000 in
set_option maxRecDepth 100000 in
theorem pf_X3_sum_b148 (r : Int64) (Y : mz_Y p g RX3 cX3_sum 15 (some .long) "sum" (mz_AF h0) s m args meth c) (h : mz_H) (x9 : Int32) (s0 : Int64) (s1 : Int64) (dc ds : Nat) (hr : fn_X3_sum_b148 h x9 s0 s1 = some (r, hf, dc, ds)) : mz_Go l g p e s m args below meth c 3 80 DC DS h0 (some (Value.long r)) hf 15 148 [(9, false, .int x9)] [.long s1, .long s0] h dc ds := by
  unfold fn_X3_sum_b148 at hr
  intro H locs cells slots ls hH hS hl hc hs
  have X := Y.1
  refine lv_iload X.1 X.2.1 dX3_sum_148 (mz_at hl 0 rfl) ?_
  refine lv_bipush (v := 9) X.1 X.2.1 dX3_sum_150 (by decide) ?_
  refine lv_isub X.1 X.2.1 dX3_sum_152 ?_
  refine lv_iconst (v := 0) X.1 X.2.1 dX3_sum_153 (by decide) ?_
  refine mz_kS Value.long X hH hS hl.1.1 [.long s0, .long s1, .int (x9 - 9), .int 0] [] hr (ct_X3_rounded l g h s0 s1 (x9 - 9) 0) mb_RX3_38 im_X3_rounded rfl (Nat.le_of_ble_eq_true rfl) ⟨Nat.le_of_ble_eq_true rfl, Nat.le_of_ble_eq_true rfl⟩ hc hs dX3_sum_154 rfl (fun v1 h H locs cells slots dc ds hr hH hS hc hs => ?_)
  exact mz_lret Y dX3_sum_157 hH hS hc hs hr
def fn_X3_sum_b124 (h : mz_H) (j5 : Int64) (x9 : Int32) (j10 : Int64) (j12 : Int64) (x14 : Int32) : mz_Res Int64 :=
  if x14 = 0 then
    fn_X3_sum_b148 h x9 (j5 &&& (-9223372036854775808)) (j10 - j12)
  else
    fn_X3_sum_b148 h x9 (j5 &&& (-9223372036854775808)) (j10 + j12)
set_option maxHeartbeats 4000000 in
set_option maxRecDepth 100000 in
theorem pf_X3_sum_b124 (r : Int64) (Y : mz_Y p g RX3 cX3_sum 15 (some .long) "sum" (mz_AF h0) s m args meth c) (h : mz_H) (j5 : Int64) (x9 : Int32) (j10 : Int64) (j12 : Int64) (x14 : Int32) (dc ds : Nat) (hr : fn_X3_sum_b124 h j5 x9 j10 j12 x14 = some (r, hf, dc, ds)) : mz_Go l g p e s m args below meth c 3 80 DC DS h0 (some (Value.long r)) hf 15 124 [(5, true, .long j5), (9, false, .int x9), (10, true, .long j10), (12, true, .long j12), (14, false, .int x14)] [] h dc ds := by
  unfold fn_X3_sum_b124 at hr
  intro H locs cells slots ls hH hS hl hc hs
  have X := Y.1
  refine lv_lload X.1 X.2.1 dX3_sum_124 (mz_at hl 0 rfl) ?_
  refine mz_ldc2 (v := (-9223372036854775808)) X (mz_tb 683 (by decide +kernel) rfl) dX3_sum_126 ?_
  refine lv_land X.1 X.2.1 dX3_sum_129 ?_
  refine lv_iload X.1 X.2.1 dX3_sum_130 (mz_at hl 4 rfl) ?_
  refine mz_if_eq X 143 dX3_sum_132 (by decide) hr (fun hr => ?_) (fun hr => ?_)
  · refine lv_lload X.1 X.2.1 dX3_sum_143 (mz_at hl 2 rfl) ?_
    refine lv_lload X.1 X.2.1 dX3_sum_145 (mz_at hl 3 rfl) ?_
    refine lv_lsub X.1 X.2.1 dX3_sum_147 ?_
    exact pf_X3_sum_b148 r Y h x9 (j5 &&& (-9223372036854775808)) (j10 - j12) _ _ hr H locs cells slots ls hH hS (mz_sub hl [1] rfl) hc hs
  · refine lv_lload X.1 X.2.1 dX3_sum_135 (mz_at hl 2 rfl) ?_
    refine lv_lload X.1 X.2.1 dX3_sum_137 (mz_at hl 3 rfl) ?_
    refine lv_ladd X.1 X.2.1 dX3_sum_139 ?_
    refine lv_goto (tgt := 148) X.1 X.2.1 dX3_sum_140 (by decide) ?_
    exact pf_X3_sum_b148 r Y h x9 (j5 &&& (-9223372036854775808)) (j10 + j12) _ _ hr H locs cells slots ls hH hS (mz_sub hl [1] rfl) hc hs
def fn_X3_sum_b107 (h : mz_H) (j5 : Int64) (x9 : Int32) (j10 : Int64) (j12 : Int64) (s0 : Int32) : mz_Res Int64 :=
  if s0 = 0 then
    if (lg_cmp j10 j12) = 0 then
      mz_ret 0 h
    else
      fn_X3_sum_b124 h j5 x9 j10 j12 s0
  else
    fn_X3_sum_b124 h j5 x9 j10 j12 s0
set_option maxHeartbeats 4000000 in
set_option maxRecDepth 100000 in
theorem pf_X3_sum_b107 (r : Int64) (Y : mz_Y p g RX3 cX3_sum 15 (some .long) "sum" (mz_AF h0) s m args meth c) (h : mz_H) (j5 : Int64) (x9 : Int32) (j10 : Int64) (j12 : Int64) (s0 : Int32) (dc ds : Nat) (hr : fn_X3_sum_b107 h j5 x9 j10 j12 s0 = some (r, hf, dc, ds)) : mz_Go l g p e s m args below meth c 3 80 DC DS h0 (some (Value.long r)) hf 15 107 [(5, true, .long j5), (9, false, .int x9), (10, true, .long j10), (12, true, .long j12)] [.int s0] h dc ds := by
  unfold fn_X3_sum_b107 at hr
  intro H locs cells slots ls hH hS hl hc hs
  have X := Y.1
  refine mz_istore X [(14, false, .int s0), (5, true, .long j5), (9, false, .int x9), (10, true, .long j10), (12, true, .long j12)] dX3_sum_107 hl (by decide) rfl (fun ls hl => ?_)
  refine lv_iload X.1 X.2.1 dX3_sum_109 (mz_at hl 0 rfl) ?_
  refine mz_if_ne X 124 dX3_sum_111 (by decide) hr (fun hr => ?_) (fun hr => ?_)
  · exact pf_X3_sum_b124 r Y h j5 x9 j10 j12 s0 _ _ hr H locs cells slots ls hH hS (mz_sub hl [1, 2, 3, 4, 0] rfl) hc hs
  · refine lv_lload X.1 X.2.1 dX3_sum_114 (mz_at hl 3 rfl) ?_
    refine lv_lload X.1 X.2.1 dX3_sum_116 (mz_at hl 4 rfl) ?_
    refine W.lcmp X.1 X.2.1 dX3_sum_118 ?_
    refine mz_if_ne X 124 dX3_sum_119 (by decide) hr (fun hr => ?_) (fun hr => ?_)
    · exact pf_X3_sum_b124 r Y h j5 x9 j10 j12 s0 _ _ hr H locs cells slots ls hH hS (mz_sub hl [1, 2, 3, 4, 0] rfl) hc hs
    · refine lv_lconst (v := 0) X.1 X.2.1 dX3_sum_122 (by decide) ?_
      exact mz_lret Y dX3_sum_123 hH hS hc hs hr
def fn_X3_sum_b43 (h : mz_H) (j0 : Int64) (j2 : Int64) (j5 : Int64) (s0 : Int64) : mz_Res Int64 :=
  mz_call (fn_X3_isFinite h j5) fun v1 h =>
  if v1 = 0 then
    mz_ret j5 h
  else
    mz_call (fn_X3_powerOf h j5) fun v2 h =>
    mz_call (fn_X3_digitsOf h j5) fun v3 h =>
    mz_op (some (mz_shl v3 9)) fun v4 =>
    mz_call (fn_X3_digitsOf h s0) fun v5 h =>
    mz_call (fn_X3_powerOf h s0) fun v6 h =>
    mz_call (fn_X3_shiftedDown h (mz_shl v5 9) (v2 - v6)) fun v7 h =>
    if (lg_cmp (j0 ^^^ j2) 0) < 0 then
      fn_X3_sum_b107 h j5 v2 v4 v7 0
    else
      fn_X3_sum_b107 h j5 v2 v4 v7 1
set_option maxHeartbeats 4000000 in
set_option maxRecDepth 100000 in
theorem pf_X3_sum_b43 (r : Int64) (Y : mz_Y p g RX3 cX3_sum 15 (some .long) "sum" (mz_AF h0) s m args meth c) (h : mz_H) (j0 : Int64) (j2 : Int64) (j5 : Int64) (s0 : Int64) (dc ds : Nat) (hr : fn_X3_sum_b43 h j0 j2 j5 s0 = some (r, hf, dc, ds)) : mz_Go l g p e s m args below meth c 3 80 DC DS h0 (some (Value.long r)) hf 15 43 [(0, true, .long j0), (2, true, .long j2), (5, true, .long j5)] [.long s0] h dc ds := by
  unfold fn_X3_sum_b43 at hr
  intro H locs cells slots ls hH hS hl hc hs
  have X := Y.1
  refine mz_lstore X [(7, true, .long s0), (0, true, .long j0), (2, true, .long j2), (5, true, .long j5)] dX3_sum_43 hl (by decide) rfl (fun ls hl => ?_)
  refine lv_lload X.1 X.2.1 dX3_sum_45 (mz_at hl 3 rfl) ?_
  refine mz_kS Value.int X hH hS hl.1.1 [.long j5] [] hr (ct_X3_isFinite l g h j5) mb_RX3_60 im_X3_isFinite rfl (Nat.le_of_ble_eq_true rfl) ⟨Nat.le_of_ble_eq_true rfl, Nat.le_of_ble_eq_true rfl⟩ hc hs dX3_sum_47 rfl (fun v1 h H locs cells slots dc ds hr hH hS hc hs => ?_)
  refine mz_if_ne X 56 dX3_sum_50 (by decide) hr (fun hr => ?_) (fun hr => ?_)
  · refine lv_lload X.1 X.2.1 dX3_sum_56 (mz_at hl 3 rfl) ?_
    refine mz_kS Value.int X hH hS hl.1.1 [.long j5] [] hr (ct_X3_powerOf l g h j5) mb_RX3_42 im_X3_powerOf rfl (Nat.le_of_ble_eq_true rfl) ⟨Nat.le_of_ble_eq_true rfl, Nat.le_of_ble_eq_true rfl⟩ hc hs dX3_sum_58 rfl (fun v2 h H locs cells slots dc ds hr hH hS hc hs => ?_)
    refine mz_istore X [(9, false, .int v2), (7, true, .long s0), (0, true, .long j0), (2, true, .long j2), (5, true, .long j5)] dX3_sum_61 hl (by decide) rfl (fun ls hl => ?_)
    refine lv_lload X.1 X.2.1 dX3_sum_63 (mz_at hl 4 rfl) ?_
    refine mz_kS Value.long X hH hS hl.1.1 [.long j5] [] hr (ct_X3_digitsOf l g h j5) mb_RX3_46 im_X3_digitsOf rfl (Nat.le_of_ble_eq_true rfl) ⟨Nat.le_of_ble_eq_true rfl, Nat.le_of_ble_eq_true rfl⟩ hc hs dX3_sum_65 rfl (fun v3 h H locs cells slots dc ds hr hH hS hc hs => ?_)
    refine lv_bipush (v := 9) X.1 X.2.1 dX3_sum_68 (by decide) ?_
    refine lv_lshl (v := (mz_shl v3 9)) X.1 X.2.1 dX3_sum_70 rfl ?_
    refine mz_topl hr (fun v4 hv4 hr => ?_)
    refine mz_lstore X [(10, true, .long v4), (9, false, .int v2), (7, true, .long s0), (0, true, .long j0), (2, true, .long j2), (5, true, .long j5)] dX3_sum_71 hl (by decide) rfl (fun ls hl => ?_)
    refine lv_lload X.1 X.2.1 dX3_sum_73 (mz_at hl 2 rfl) ?_
    refine mz_kS Value.long X hH hS hl.1.1 [.long s0] [] hr (ct_X3_digitsOf l g h s0) mb_RX3_46 im_X3_digitsOf rfl (Nat.le_of_ble_eq_true rfl) ⟨Nat.le_of_ble_eq_true rfl, Nat.le_of_ble_eq_true rfl⟩ hc hs dX3_sum_75 rfl (fun v5 h H locs cells slots dc ds hr hH hS hc hs => ?_)
    refine lv_bipush (v := 9) X.1 X.2.1 dX3_sum_78 (by decide) ?_
    refine lv_lshl (v := (mz_shl v5 9)) X.1 X.2.1 dX3_sum_80 rfl ?_
    refine lv_iload X.1 X.2.1 dX3_sum_81 (mz_at hl 1 rfl) ?_
    refine lv_lload X.1 X.2.1 dX3_sum_83 (mz_at hl 2 rfl) ?_
    refine mz_kS Value.int X hH hS hl.1.1 [.long s0] [.int v2, .long (mz_shl v5 9)] hr (ct_X3_powerOf l g h s0) mb_RX3_42 im_X3_powerOf rfl (Nat.le_of_ble_eq_true rfl) ⟨Nat.le_of_ble_eq_true rfl, Nat.le_of_ble_eq_true rfl⟩ hc hs dX3_sum_85 rfl (fun v6 h H locs cells slots dc ds hr hH hS hc hs => ?_)
    refine lv_isub X.1 X.2.1 dX3_sum_88 ?_
    refine mz_kS Value.long X hH hS hl.1.1 [.long (mz_shl v5 9), .int (v2 - v6)] [] hr (ct_X3_shiftedDown l g h (mz_shl v5 9) (v2 - v6)) mb_RX3_63 im_X3_shiftedDown rfl (Nat.le_of_ble_eq_true rfl) ⟨Nat.le_of_ble_eq_true rfl, Nat.le_of_ble_eq_true rfl⟩ hc hs dX3_sum_89 rfl (fun v7 h H locs cells slots dc ds hr hH hS hc hs => ?_)
    refine mz_lstore X [(12, true, .long v7), (10, true, .long v4), (9, false, .int v2), (7, true, .long s0), (0, true, .long j0), (2, true, .long j2), (5, true, .long j5)] dX3_sum_92 hl (by decide) rfl (fun ls hl => ?_)
    refine lv_lload_n X.1 X.2.1 dX3_sum_94 rfl (mz_at hl 4 rfl) ?_
    refine lv_lload_n X.1 X.2.1 dX3_sum_95 rfl (mz_at hl 5 rfl) ?_
    refine lv_lxor X.1 X.2.1 dX3_sum_96 ?_
    refine lv_lconst (v := 0) X.1 X.2.1 dX3_sum_97 (by decide) ?_
    refine W.lcmp X.1 X.2.1 dX3_sum_98 ?_
    refine mz_if_lt X 106 dX3_sum_99 (by decide) hr (fun hr => ?_) (fun hr => ?_)
    · refine lv_iconst (v := 0) X.1 X.2.1 dX3_sum_106 (by decide) ?_
      exact pf_X3_sum_b107 r Y h j5 v2 v4 v7 0 _ _ hr H locs cells slots ls hH hS (mz_sub hl [6, 2, 1, 0] rfl) hc hs
    · refine lv_iconst (v := 1) X.1 X.2.1 dX3_sum_102 (by decide) ?_
      refine lv_goto (tgt := 107) X.1 X.2.1 dX3_sum_103 (by decide) ?_
      exact pf_X3_sum_b107 r Y h j5 v2 v4 v7 1 _ _ hr H locs cells slots ls hH hS (mz_sub hl [6, 2, 1, 0] rfl) hc hs
  · refine lv_lload X.1 X.2.1 dX3_sum_53 (mz_at hl 3 rfl) ?_
    exact mz_lret Y dX3_sum_55 hH hS hc hs hr
def fn_X3_sum_b31 (h : mz_H) (j0 : Int64) (j2 : Int64) (x4 : Int32) (s0 : Int64) : mz_Res Int64 :=
  if x4 = 0 then
    fn_X3_sum_b43 h j0 j2 s0 j0
  else
    fn_X3_sum_b43 h j0 j2 s0 j2
set_option maxHeartbeats 4000000 in
set_option maxRecDepth 100000 in
theorem pf_X3_sum_b31 (r : Int64) (Y : mz_Y p g RX3 cX3_sum 15 (some .long) "sum" (mz_AF h0) s m args meth c) (h : mz_H) (j0 : Int64) (j2 : Int64) (x4 : Int32) (s0 : Int64) (dc ds : Nat) (hr : fn_X3_sum_b31 h j0 j2 x4 s0 = some (r, hf, dc, ds)) : mz_Go l g p e s m args below meth c 3 80 DC DS h0 (some (Value.long r)) hf 15 31 [(0, true, .long j0), (2, true, .long j2), (4, false, .int x4)] [.long s0] h dc ds := by
  unfold fn_X3_sum_b31 at hr
  intro H locs cells slots ls hH hS hl hc hs
  have X := Y.1
  refine mz_lstore X [(5, true, .long s0), (0, true, .long j0), (2, true, .long j2), (4, false, .int x4)] dX3_sum_31 hl (by decide) rfl (fun ls hl => ?_)
  refine lv_iload X.1 X.2.1 dX3_sum_33 (mz_at hl 3 rfl) ?_
  refine mz_if_eq X 42 dX3_sum_35 (by decide) hr (fun hr => ?_) (fun hr => ?_)
  · refine lv_lload_n X.1 X.2.1 dX3_sum_42 rfl (mz_at hl 1 rfl) ?_
    exact pf_X3_sum_b43 r Y h j0 j2 s0 j0 _ _ hr H locs cells slots ls hH hS (mz_sub hl [1, 2, 0] rfl) hc hs
  · refine lv_lload_n X.1 X.2.1 dX3_sum_38 rfl (mz_at hl 2 rfl) ?_
    refine lv_goto (tgt := 43) X.1 X.2.1 dX3_sum_39 (by decide) ?_
    exact pf_X3_sum_b43 r Y h j0 j2 s0 j2 _ _ hr H locs cells slots ls hH hS (mz_sub hl [1, 2, 0] rfl) hc hs
def fn_X3_sum_b19 (h : mz_H) (j0 : Int64) (j2 : Int64) (s0 : Int32) : mz_Res Int64 :=
  if s0 = 0 then
    fn_X3_sum_b31 h j0 j2 s0 j2
  else
    fn_X3_sum_b31 h j0 j2 s0 j0
set_option maxHeartbeats 4000000 in
set_option maxRecDepth 100000 in
theorem pf_X3_sum_b19 (r : Int64) (Y : mz_Y p g RX3 cX3_sum 15 (some .long) "sum" (mz_AF h0) s m args meth c) (h : mz_H) (j0 : Int64) (j2 : Int64) (s0 : Int32) (dc ds : Nat) (hr : fn_X3_sum_b19 h j0 j2 s0 = some (r, hf, dc, ds)) : mz_Go l g p e s m args below meth c 3 80 DC DS h0 (some (Value.long r)) hf 15 19 [(0, true, .long j0), (2, true, .long j2)] [.int s0] h dc ds := by
  unfold fn_X3_sum_b19 at hr
  intro H locs cells slots ls hH hS hl hc hs
  have X := Y.1
  refine mz_istore X [(4, false, .int s0), (0, true, .long j0), (2, true, .long j2)] dX3_sum_19 hl (by decide) rfl (fun ls hl => ?_)
  refine lv_iload X.1 X.2.1 dX3_sum_21 (mz_at hl 0 rfl) ?_
  refine mz_if_eq X 30 dX3_sum_23 (by decide) hr (fun hr => ?_) (fun hr => ?_)
  · refine lv_lload_n X.1 X.2.1 dX3_sum_30 rfl (mz_at hl 2 rfl) ?_
    exact pf_X3_sum_b31 r Y h j0 j2 s0 j2 _ _ hr H locs cells slots ls hH hS (mz_sub hl [1, 2, 0] rfl) hc hs
  · refine lv_lload_n X.1 X.2.1 dX3_sum_26 rfl (mz_at hl 1 rfl) ?_
    refine lv_goto (tgt := 31) X.1 X.2.1 dX3_sum_27 (by decide) ?_
    exact pf_X3_sum_b31 r Y h j0 j2 s0 j0 _ _ hr H locs cells slots ls hH hS (mz_sub hl [1, 2, 0] rfl) hc hs
def fn_X3_sum (h : mz_H) (j0 : Int64) (j2 : Int64) : mz_Res Int64 :=
  if (lg_cmp (j0 &&& 9223372036854775807) (j2 &&& 9223372036854775807)) < 0 then
    fn_X3_sum_b19 h j0 j2 0
  else
    fn_X3_sum_b19 h j0 j2 1
set_option maxHeartbeats 4000000 in
set_option maxRecDepth 100000 in
theorem pf_X3_sum_b0 (r : Int64) (Y : mz_Y p g RX3 cX3_sum 15 (some .long) "sum" (mz_AF h0) s m args meth c) (h : mz_H) (j0 : Int64) (j2 : Int64) (dc ds : Nat) (hr : fn_X3_sum h j0 j2 = some (r, hf, dc, ds)) : mz_Go l g p e s m args below meth c 3 80 DC DS h0 (some (Value.long r)) hf 15 0 [(0, true, .long j0), (2, true, .long j2)] [] h dc ds := by
  unfold fn_X3_sum at hr
  intro H locs cells slots ls hH hS hl hc hs
  have X := Y.1
  refine lv_lload_n X.1 X.2.1 dX3_sum_0 rfl (mz_at hl 0 rfl) ?_
  refine mz_ldc2 (v := 9223372036854775807) X (mz_tb 677 (by decide +kernel) rfl) dX3_sum_1 ?_
  refine lv_land X.1 X.2.1 dX3_sum_4 ?_
  refine lv_lload_n X.1 X.2.1 dX3_sum_5 rfl (mz_at hl 1 rfl) ?_
  refine mz_ldc2 (v := 9223372036854775807) X (mz_tb 677 (by decide +kernel) rfl) dX3_sum_6 ?_
  refine lv_land X.1 X.2.1 dX3_sum_9 ?_
  refine W.lcmp X.1 X.2.1 dX3_sum_10 ?_
  refine mz_if_lt X 18 dX3_sum_11 (by decide) hr (fun hr => ?_) (fun hr => ?_)
  · refine lv_iconst (v := 0) X.1 X.2.1 dX3_sum_18 (by decide) ?_
    exact pf_X3_sum_b19 r Y h j0 j2 0 _ _ hr H locs cells slots ls hH hS (mz_sub hl [0, 1] rfl) hc hs
  · refine lv_iconst (v := 1) X.1 X.2.1 dX3_sum_14 (by decide) ?_
    refine lv_goto (tgt := 19) X.1 X.2.1 dX3_sum_15 (by decide) ?_
    exact pf_X3_sum_b19 r Y h j0 j2 1 _ _ hr H locs cells slots ls hH hS (mz_sub hl [0, 1] rfl) hc hs
set_option maxRecDepth 100000 in
theorem ct_X3_sum (l : Launch) (g : mz_G) (h : mz_H) (j0 : Int64) (j2 : Int64) (r : Int64) (hf : mz_H) (k n : Nat) (hr : fn_X3_sum h j0 j2 = some (r, hf, k, n)) : mz_C l g yX3_sum cX3_sum 15 (some .long) 3 80 [.long j0, .long j2] h (some (Value.long r)) hf k n := by
  refine mz_met (as := [(true, .long j0), (true, .long j2)]) (plainFor_of_name (by decide)) (mz_c1 rfl (mz_c1 rfl mz_c0)) (Nat.le_of_ble_eq_true rfl) ?_
  intro p e s m args below meth c Y
  exact pf_X3_sum_b0 r Y h j0 j2 _ _ hr
theorem dX3_product_0 : decode cX3_product 0 = .ok (.lload_n 0, 1) := by decide +kernel
theorem dX3_product_1 : decode cX3_product 1 = .ok (.lload_n 2, 1) := by decide +kernel
theorem dX3_product_2 : decode cX3_product 2 = .ok (.lxor, 1) := by decide +kernel
theorem dX3_product_3 : decode cX3_product 3 = .ok (.ldc2_w 33, 3) := by decide +kernel
theorem dX3_product_6 : decode cX3_product 6 = .ok (.land, 1) := by decide +kernel
theorem dX3_product_7 : decode cX3_product 7 = .ok (.lstore 4, 2) := by decide +kernel
theorem dX3_product_9 : decode cX3_product 9 = .ok (.lload_n 0, 1) := by decide +kernel
theorem dX3_product_10 : decode cX3_product 10 = .ok (.invokestatic 60, 3) := by decide +kernel
theorem dX3_product_13 : decode cX3_product 13 = .ok (.ifCond .ne 12, 3) := by decide +kernel
theorem dX3_product_16 : decode cX3_product 16 = .ok (.lload 4, 2) := by decide +kernel
theorem dX3_product_18 : decode cX3_product 18 = .ok (.lload_n 0, 1) := by decide +kernel
theorem dX3_product_19 : decode cX3_product 19 = .ok (.ldc2_w 31, 3) := by decide +kernel
theorem dX3_product_22 : decode cX3_product 22 = .ok (.land, 1) := by decide +kernel
theorem dX3_product_23 : decode cX3_product 23 = .ok (.lor, 1) := by decide +kernel
theorem dX3_product_24 : decode cX3_product 24 = .ok (.lreturn, 1) := by decide +kernel
theorem dX3_product_25 : decode cX3_product 25 = .ok (.lload_n 0, 1) := by decide +kernel
theorem dX3_product_26 : decode cX3_product 26 = .ok (.invokestatic 49, 3) := by decide +kernel
theorem dX3_product_29 : decode cX3_product 29 = .ok (.ifCond .eq 6, 3) := by decide +kernel
theorem dX3_product_32 : decode cX3_product 32 = .ok (.lload 4, 2) := by decide +kernel
theorem dX3_product_34 : decode cX3_product 34 = .ok (.lreturn, 1) := by decide +kernel
theorem dX3_product_35 : decode cX3_product 35 = .ok (.bipush 53, 2) := by decide +kernel
theorem dX3_product_37 : decode cX3_product 37 = .ok (.lload_n 0, 1) := by decide +kernel
theorem dX3_product_38 : decode cX3_product 38 = .ok (.invokestatic 46, 3) := by decide +kernel
theorem dX3_product_41 : decode cX3_product 41 = .ok (.invokestatic 66, 3) := by decide +kernel
theorem dX3_product_44 : decode cX3_product 44 = .ok (.isub, 1) := by decide +kernel
theorem dX3_product_45 : decode cX3_product 45 = .ok (.istore 6, 2) := by decide +kernel
theorem dX3_product_47 : decode cX3_product 47 = .ok (.bipush 53, 2) := by decide +kernel
theorem dX3_product_49 : decode cX3_product 49 = .ok (.lload_n 2, 1) := by decide +kernel
theorem dX3_product_50 : decode cX3_product 50 = .ok (.invokestatic 46, 3) := by decide +kernel
theorem dX3_product_53 : decode cX3_product 53 = .ok (.invokestatic 66, 3) := by decide +kernel
theorem dX3_product_56 : decode cX3_product 56 = .ok (.isub, 1) := by decide +kernel
theorem dX3_product_57 : decode cX3_product 57 = .ok (.istore 7, 2) := by decide +kernel
theorem dX3_product_59 : decode cX3_product 59 = .ok (.lload_n 0, 1) := by decide +kernel
theorem dX3_product_60 : decode cX3_product 60 = .ok (.invokestatic 46, 3) := by decide +kernel
theorem dX3_product_63 : decode cX3_product 63 = .ok (.iload 6, 2) := by decide +kernel
theorem dX3_product_65 : decode cX3_product 65 = .ok (.lshl, 1) := by decide +kernel
theorem dX3_product_66 : decode cX3_product 66 = .ok (.lstore 8, 2) := by decide +kernel
theorem dX3_product_68 : decode cX3_product 68 = .ok (.lload_n 2, 1) := by decide +kernel
theorem dX3_product_69 : decode cX3_product 69 = .ok (.invokestatic 46, 3) := by decide +kernel
theorem dX3_product_72 : decode cX3_product 72 = .ok (.iload 7, 2) := by decide +kernel
theorem dX3_product_74 : decode cX3_product 74 = .ok (.lshl, 1) := by decide +kernel
theorem dX3_product_75 : decode cX3_product 75 = .ok (.lstore 10, 2) := by decide +kernel
theorem dX3_product_77 : decode cX3_product 77 = .ok (.lload 8, 2) := by decide +kernel
theorem dX3_product_79 : decode cX3_product 79 = .ok (.ldc2_w 69, 3) := by decide +kernel
theorem dX3_product_82 : decode cX3_product 82 = .ok (.land, 1) := by decide +kernel
theorem dX3_product_83 : decode cX3_product 83 = .ok (.lload 10, 2) := by decide +kernel
theorem dX3_product_85 : decode cX3_product 85 = .ok (.ldc2_w 69, 3) := by decide +kernel
theorem dX3_product_88 : decode cX3_product 88 = .ok (.land, 1) := by decide +kernel
theorem dX3_product_89 : decode cX3_product 89 = .ok (.lmul, 1) := by decide +kernel
theorem dX3_product_90 : decode cX3_product 90 = .ok (.lstore 12, 2) := by decide +kernel
theorem dX3_product_92 : decode cX3_product 92 = .ok (.lload 8, 2) := by decide +kernel
theorem dX3_product_94 : decode cX3_product 94 = .ok (.bipush 27, 2) := by decide +kernel
theorem dX3_product_96 : decode cX3_product 96 = .ok (.lushr, 1) := by decide +kernel
theorem dX3_product_97 : decode cX3_product 97 = .ok (.lload 10, 2) := by decide +kernel
theorem dX3_product_99 : decode cX3_product 99 = .ok (.ldc2_w 69, 3) := by decide +kernel
theorem dX3_product_102 : decode cX3_product 102 = .ok (.land, 1) := by decide +kernel
theorem dX3_product_103 : decode cX3_product 103 = .ok (.lmul, 1) := by decide +kernel
theorem dX3_product_104 : decode cX3_product 104 = .ok (.lload 8, 2) := by decide +kernel
theorem dX3_product_106 : decode cX3_product 106 = .ok (.ldc2_w 69, 3) := by decide +kernel
theorem dX3_product_109 : decode cX3_product 109 = .ok (.land, 1) := by decide +kernel
theorem dX3_product_110 : decode cX3_product 110 = .ok (.lload 10, 2) := by decide +kernel
theorem dX3_product_112 : decode cX3_product 112 = .ok (.bipush 27, 2) := by decide +kernel
theorem dX3_product_114 : decode cX3_product 114 = .ok (.lushr, 1) := by decide +kernel
theorem dX3_product_115 : decode cX3_product 115 = .ok (.lmul, 1) := by decide +kernel
theorem dX3_product_116 : decode cX3_product 116 = .ok (.ladd, 1) := by decide +kernel
theorem dX3_product_117 : decode cX3_product 117 = .ok (.lload 12, 2) := by decide +kernel
theorem dX3_product_119 : decode cX3_product 119 = .ok (.bipush 27, 2) := by decide +kernel
theorem dX3_product_121 : decode cX3_product 121 = .ok (.lushr, 1) := by decide +kernel
theorem dX3_product_122 : decode cX3_product 122 = .ok (.ladd, 1) := by decide +kernel
theorem dX3_product_123 : decode cX3_product 123 = .ok (.lstore 14, 2) := by decide +kernel
theorem dX3_product_125 : decode cX3_product 125 = .ok (.lload 8, 2) := by decide +kernel
theorem dX3_product_127 : decode cX3_product 127 = .ok (.bipush 27, 2) := by decide +kernel
theorem dX3_product_129 : decode cX3_product 129 = .ok (.lushr, 1) := by decide +kernel
theorem dX3_product_130 : decode cX3_product 130 = .ok (.lload 10, 2) := by decide +kernel
theorem dX3_product_132 : decode cX3_product 132 = .ok (.bipush 27, 2) := by decide +kernel
theorem dX3_product_134 : decode cX3_product 134 = .ok (.lushr, 1) := by decide +kernel
theorem dX3_product_135 : decode cX3_product 135 = .ok (.lmul, 1) := by decide +kernel
theorem dX3_product_136 : decode cX3_product 136 = .ok (.lload 14, 2) := by decide +kernel
theorem dX3_product_138 : decode cX3_product 138 = .ok (.bipush 27, 2) := by decide +kernel
theorem dX3_product_140 : decode cX3_product 140 = .ok (.lushr, 1) := by decide +kernel
theorem dX3_product_141 : decode cX3_product 141 = .ok (.ladd, 1) := by decide +kernel
theorem dX3_product_142 : decode cX3_product 142 = .ok (.lstore 16, 2) := by decide +kernel
theorem dX3_product_144 : decode cX3_product 144 = .ok (.lload 14, 2) := by decide +kernel
theorem dX3_product_146 : decode cX3_product 146 = .ok (.ldc2_w 69, 3) := by decide +kernel
theorem dX3_product_149 : decode cX3_product 149 = .ok (.land, 1) := by decide +kernel
theorem dX3_product_150 : decode cX3_product 150 = .ok (.bipush 27, 2) := by decide +kernel
theorem dX3_product_152 : decode cX3_product 152 = .ok (.lshl, 1) := by decide +kernel
theorem dX3_product_153 : decode cX3_product 153 = .ok (.lload 12, 2) := by decide +kernel
theorem dX3_product_155 : decode cX3_product 155 = .ok (.ldc2_w 69, 3) := by decide +kernel
theorem dX3_product_158 : decode cX3_product 158 = .ok (.land, 1) := by decide +kernel
theorem dX3_product_159 : decode cX3_product 159 = .ok (.lor, 1) := by decide +kernel
theorem dX3_product_160 : decode cX3_product 160 = .ok (.lstore 18, 2) := by decide +kernel
theorem dX3_product_162 : decode cX3_product 162 = .ok (.lload 16, 2) := by decide +kernel
theorem dX3_product_164 : decode cX3_product 164 = .ok (.bipush 9, 2) := by decide +kernel
theorem dX3_product_166 : decode cX3_product 166 = .ok (.lshl, 1) := by decide +kernel
theorem dX3_product_167 : decode cX3_product 167 = .ok (.lload 18, 2) := by decide +kernel
theorem dX3_product_169 : decode cX3_product 169 = .ok (.bipush 45, 2) := by decide +kernel
theorem dX3_product_171 : decode cX3_product 171 = .ok (.invokestatic 63, 3) := by decide +kernel
theorem dX3_product_174 : decode cX3_product 174 = .ok (.lor, 1) := by decide +kernel
theorem dX3_product_175 : decode cX3_product 175 = .ok (.lstore 20, 2) := by decide +kernel
theorem dX3_product_177 : decode cX3_product 177 = .ok (.lload_n 0, 1) := by decide +kernel
theorem dX3_product_178 : decode cX3_product 178 = .ok (.invokestatic 42, 3) := by decide +kernel
theorem dX3_product_181 : decode cX3_product 181 = .ok (.iload 6, 2) := by decide +kernel
theorem dX3_product_183 : decode cX3_product 183 = .ok (.isub, 1) := by decide +kernel
theorem dX3_product_184 : decode cX3_product 184 = .ok (.lload_n 2, 1) := by decide +kernel
theorem dX3_product_185 : decode cX3_product 185 = .ok (.invokestatic 42, 3) := by decide +kernel
theorem dX3_product_188 : decode cX3_product 188 = .ok (.iadd, 1) := by decide +kernel
theorem dX3_product_189 : decode cX3_product 189 = .ok (.iload 7, 2) := by decide +kernel
theorem dX3_product_191 : decode cX3_product 191 = .ok (.isub, 1) := by decide +kernel
theorem dX3_product_192 : decode cX3_product 192 = .ok (.istore 22, 2) := by decide +kernel
theorem dX3_product_194 : decode cX3_product 194 = .ok (.lload 4, 2) := by decide +kernel
theorem dX3_product_196 : decode cX3_product 196 = .ok (.lload 20, 2) := by decide +kernel
theorem dX3_product_198 : decode cX3_product 198 = .ok (.iload 22, 2) := by decide +kernel
theorem dX3_product_200 : decode cX3_product 200 = .ok (.bipush 54, 2) := by decide +kernel
theorem dX3_product_202 : decode cX3_product 202 = .ok (.iadd, 1) := by decide +kernel
theorem dX3_product_203 : decode cX3_product 203 = .ok (.bipush 9, 2) := by decide +kernel
theorem dX3_product_205 : decode cX3_product 205 = .ok (.isub, 1) := by decide +kernel
theorem dX3_product_206 : decode cX3_product 206 = .ok (.iconst 0, 1) := by decide +kernel
theorem dX3_product_207 : decode cX3_product 207 = .ok (.invokestatic 38, 3) := by decide +kernel
theorem dX3_product_210 : decode cX3_product 210 = .ok (.lreturn, 1) := by decide +kernel
def fn_X3_product (h : mz_H) (j0 : Int64) (j2 : Int64) : mz_Res Int64 :=
  mz_op (some ((j0 ^^^ j2) &&& (-9223372036854775808))) fun v1 =>
  mz_call (fn_X3_isFinite h j0) fun v2 h =>
  if v2 = 0 then
    mz_ret (v1 ||| (j0 &&& 9223372036854775807)) h
  else
    mz_call (fn_X3_isZero h j0) fun v3 h =>
    if v3 = 0 then
      mz_call (fn_X3_digitsOf h j0) fun v4 h =>
      mz_call (fn_X3_lengthOf h v4) fun v5 h =>
      mz_op (some (53 - v5)) fun v6 =>
      mz_call (fn_X3_digitsOf h j2) fun v7 h =>
      mz_call (fn_X3_lengthOf h v7) fun v8 h =>
      mz_op (some (53 - v8)) fun v9 =>
      mz_call (fn_X3_digitsOf h j0) fun v10 h =>
      mz_op (some (mz_shl v10 v6)) fun v11 =>
      mz_call (fn_X3_digitsOf h j2) fun v12 h =>
      mz_op (some (mz_shl v12 v9)) fun v13 =>
      mz_op (some ((v11 &&& 134217727) * (v13 &&& 134217727))) fun v14 =>
      mz_op (some ((((mz_ushr v11 27) * (v13 &&& 134217727)) + ((v11 &&& 134217727) * (mz_ushr v13 27))) + (mz_ushr v14 27))) fun v15 =>
      mz_op (some (((mz_ushr v11 27) * (mz_ushr v13 27)) + (mz_ushr v15 27))) fun v16 =>
      mz_op (some ((mz_shl (v15 &&& 134217727) 27) ||| (v14 &&& 134217727))) fun v17 =>
      mz_call (fn_X3_shiftedDown h v17 45) fun v18 h =>
      mz_op (some ((mz_shl v16 9) ||| v18)) fun v19 =>
      mz_call (fn_X3_powerOf h j0) fun v20 h =>
      mz_call (fn_X3_powerOf h j2) fun v21 h =>
      mz_op (some (((v20 - v6) + v21) - v9)) fun v22 =>
      mz_call (fn_X3_rounded h v1 v19 ((v22 + 54) - 9) 0) fun v23 h =>
      mz_ret v23 h
    else
      mz_ret v1 h
set_option maxHeartbeats 4000000 in
set_option maxRecDepth 100000 in
theorem pf_X3_product_b0 (r : Int64) (Y : mz_Y p g RX3 cX3_product 23 (some .long) "product" (mz_AF h0) s m args meth c) (h : mz_H) (j0 : Int64) (j2 : Int64) (dc ds : Nat) (hr : fn_X3_product h j0 j2 = some (r, hf, dc, ds)) : mz_Go l g p e s m args below meth c 3 80 DC DS h0 (some (Value.long r)) hf 23 0 [(0, true, .long j0), (2, true, .long j2)] [] h dc ds := by
  unfold fn_X3_product at hr
  intro H locs cells slots ls hH hS hl hc hs
  have X := Y.1
  refine lv_lload_n X.1 X.2.1 dX3_product_0 rfl (mz_at hl 0 rfl) ?_
  refine lv_lload_n X.1 X.2.1 dX3_product_1 rfl (mz_at hl 1 rfl) ?_
  refine lv_lxor X.1 X.2.1 dX3_product_2 ?_
  refine mz_ldc2 (v := (-9223372036854775808)) X (mz_tb 683 (by decide +kernel) rfl) dX3_product_3 ?_
  refine lv_land X.1 X.2.1 dX3_product_6 ?_
  refine mz_topl hr (fun v1 hv1 hr => ?_)
  refine mz_lstore X [(4, true, .long v1), (0, true, .long j0), (2, true, .long j2)] dX3_product_7 hl (by decide) rfl (fun ls hl => ?_)
  refine lv_lload_n X.1 X.2.1 dX3_product_9 rfl (mz_at hl 1 rfl) ?_
  refine mz_kS Value.int X hH hS hl.1.1 [.long j0] [] hr (ct_X3_isFinite l g h j0) mb_RX3_60 im_X3_isFinite rfl (Nat.le_of_ble_eq_true rfl) ⟨Nat.le_of_ble_eq_true rfl, Nat.le_of_ble_eq_true rfl⟩ hc hs dX3_product_10 rfl (fun v2 h H locs cells slots dc ds hr hH hS hc hs => ?_)
  refine mz_if_ne X 25 dX3_product_13 (by decide) hr (fun hr => ?_) (fun hr => ?_)
  · refine lv_lload_n X.1 X.2.1 dX3_product_25 rfl (mz_at hl 1 rfl) ?_
    refine mz_kS Value.int X hH hS hl.1.1 [.long j0] [] hr (ct_X3_isZero l g h j0) mb_RX3_49 im_X3_isZero rfl (Nat.le_of_ble_eq_true rfl) ⟨Nat.le_of_ble_eq_true rfl, Nat.le_of_ble_eq_true rfl⟩ hc hs dX3_product_26 rfl (fun v3 h H locs cells slots dc ds hr hH hS hc hs => ?_)
    refine mz_if_eq X 35 dX3_product_29 (by decide) hr (fun hr => ?_) (fun hr => ?_)
    · refine lv_bipush (v := 53) X.1 X.2.1 dX3_product_35 (by decide) ?_
      refine lv_lload_n X.1 X.2.1 dX3_product_37 rfl (mz_at hl 1 rfl) ?_
      refine mz_kS Value.long X hH hS hl.1.1 [.long j0] [.int 53] hr (ct_X3_digitsOf l g h j0) mb_RX3_46 im_X3_digitsOf rfl (Nat.le_of_ble_eq_true rfl) ⟨Nat.le_of_ble_eq_true rfl, Nat.le_of_ble_eq_true rfl⟩ hc hs dX3_product_38 rfl (fun v4 h H locs cells slots dc ds hr hH hS hc hs => ?_)
      refine mz_kS Value.int X hH hS hl.1.1 [.long v4] [.int 53] hr (ct_X3_lengthOf l g h v4) mb_RX3_66 im_X3_lengthOf rfl (Nat.le_of_ble_eq_true rfl) ⟨Nat.le_of_ble_eq_true rfl, Nat.le_of_ble_eq_true rfl⟩ hc hs dX3_product_41 rfl (fun v5 h H locs cells slots dc ds hr hH hS hc hs => ?_)
      refine lv_isub X.1 X.2.1 dX3_product_44 ?_
      refine mz_topi hr (fun v6 hv6 hr => ?_)
      refine mz_istore X [(6, false, .int v6), (4, true, .long v1), (0, true, .long j0), (2, true, .long j2)] dX3_product_45 hl (by decide) rfl (fun ls hl => ?_)
      refine lv_bipush (v := 53) X.1 X.2.1 dX3_product_47 (by decide) ?_
      refine lv_lload_n X.1 X.2.1 dX3_product_49 rfl (mz_at hl 3 rfl) ?_
      refine mz_kS Value.long X hH hS hl.1.1 [.long j2] [.int 53] hr (ct_X3_digitsOf l g h j2) mb_RX3_46 im_X3_digitsOf rfl (Nat.le_of_ble_eq_true rfl) ⟨Nat.le_of_ble_eq_true rfl, Nat.le_of_ble_eq_true rfl⟩ hc hs dX3_product_50 rfl (fun v7 h H locs cells slots dc ds hr hH hS hc hs => ?_)
      refine mz_kS Value.int X hH hS hl.1.1 [.long v7] [.int 53] hr (ct_X3_lengthOf l g h v7) mb_RX3_66 im_X3_lengthOf rfl (Nat.le_of_ble_eq_true rfl) ⟨Nat.le_of_ble_eq_true rfl, Nat.le_of_ble_eq_true rfl⟩ hc hs dX3_product_53 rfl (fun v8 h H locs cells slots dc ds hr hH hS hc hs => ?_)
      refine lv_isub X.1 X.2.1 dX3_product_56 ?_
      refine mz_topi hr (fun v9 hv9 hr => ?_)
      refine mz_istore X [(7, false, .int v9), (6, false, .int v6), (4, true, .long v1), (0, true, .long j0), (2, true, .long j2)] dX3_product_57 hl (by decide) rfl (fun ls hl => ?_)
      refine lv_lload_n X.1 X.2.1 dX3_product_59 rfl (mz_at hl 3 rfl) ?_
      refine mz_kS Value.long X hH hS hl.1.1 [.long j0] [] hr (ct_X3_digitsOf l g h j0) mb_RX3_46 im_X3_digitsOf rfl (Nat.le_of_ble_eq_true rfl) ⟨Nat.le_of_ble_eq_true rfl, Nat.le_of_ble_eq_true rfl⟩ hc hs dX3_product_60 rfl (fun v10 h H locs cells slots dc ds hr hH hS hc hs => ?_)
      refine lv_iload X.1 X.2.1 dX3_product_63 (mz_at hl 1 rfl) ?_
      refine lv_lshl (v := (mz_shl v10 v6)) X.1 X.2.1 dX3_product_65 rfl ?_
      refine mz_topl hr (fun v11 hv11 hr => ?_)
      refine mz_lstore X [(8, true, .long v11), (7, false, .int v9), (6, false, .int v6), (4, true, .long v1), (0, true, .long j0), (2, true, .long j2)] dX3_product_66 hl (by decide) rfl (fun ls hl => ?_)
      refine lv_lload_n X.1 X.2.1 dX3_product_68 rfl (mz_at hl 5 rfl) ?_
      refine mz_kS Value.long X hH hS hl.1.1 [.long j2] [] hr (ct_X3_digitsOf l g h j2) mb_RX3_46 im_X3_digitsOf rfl (Nat.le_of_ble_eq_true rfl) ⟨Nat.le_of_ble_eq_true rfl, Nat.le_of_ble_eq_true rfl⟩ hc hs dX3_product_69 rfl (fun v12 h H locs cells slots dc ds hr hH hS hc hs => ?_)
      refine lv_iload X.1 X.2.1 dX3_product_72 (mz_at hl 1 rfl) ?_
      refine lv_lshl (v := (mz_shl v12 v9)) X.1 X.2.1 dX3_product_74 rfl ?_
      refine mz_topl hr (fun v13 hv13 hr => ?_)
      refine mz_lstore X [(10, true, .long v13), (8, true, .long v11), (7, false, .int v9), (6, false, .int v6), (4, true, .long v1), (0, true, .long j0), (2, true, .long j2)] dX3_product_75 hl (by decide) rfl (fun ls hl => ?_)
      refine lv_lload X.1 X.2.1 dX3_product_77 (mz_at hl 1 rfl) ?_
      refine mz_ldc2 (v := 134217727) X (mz_tb 899 (by decide +kernel) rfl) dX3_product_79 ?_
      refine lv_land X.1 X.2.1 dX3_product_82 ?_
      refine lv_lload X.1 X.2.1 dX3_product_83 (mz_at hl 0 rfl) ?_
      refine mz_ldc2 (v := 134217727) X (mz_tb 899 (by decide +kernel) rfl) dX3_product_85 ?_
      refine lv_land X.1 X.2.1 dX3_product_88 ?_
      refine lv_lmul X.1 X.2.1 dX3_product_89 ?_
      refine mz_topl hr (fun v14 hv14 hr => ?_)
      refine mz_lstore X [(12, true, .long v14), (10, true, .long v13), (8, true, .long v11), (7, false, .int v9), (6, false, .int v6), (4, true, .long v1), (0, true, .long j0), (2, true, .long j2)] dX3_product_90 hl (by decide) rfl (fun ls hl => ?_)
      refine lv_lload X.1 X.2.1 dX3_product_92 (mz_at hl 2 rfl) ?_
      refine lv_bipush (v := 27) X.1 X.2.1 dX3_product_94 (by decide) ?_
      refine lv_lushr (v := (mz_ushr v11 27)) X.1 X.2.1 dX3_product_96 rfl ?_
      refine lv_lload X.1 X.2.1 dX3_product_97 (mz_at hl 1 rfl) ?_
      refine mz_ldc2 (v := 134217727) X (mz_tb 899 (by decide +kernel) rfl) dX3_product_99 ?_
      refine lv_land X.1 X.2.1 dX3_product_102 ?_
      refine lv_lmul X.1 X.2.1 dX3_product_103 ?_
      refine lv_lload X.1 X.2.1 dX3_product_104 (mz_at hl 2 rfl) ?_
      refine mz_ldc2 (v := 134217727) X (mz_tb 899 (by decide +kernel) rfl) dX3_product_106 ?_
      refine lv_land X.1 X.2.1 dX3_product_109 ?_
      refine lv_lload X.1 X.2.1 dX3_product_110 (mz_at hl 1 rfl) ?_
      refine lv_bipush (v := 27) X.1 X.2.1 dX3_product_112 (by decide) ?_
      refine lv_lushr (v := (mz_ushr v13 27)) X.1 X.2.1 dX3_product_114 rfl ?_
      refine lv_lmul X.1 X.2.1 dX3_product_115 ?_
      refine lv_ladd X.1 X.2.1 dX3_product_116 ?_
      refine lv_lload X.1 X.2.1 dX3_product_117 (mz_at hl 0 rfl) ?_
      refine lv_bipush (v := 27) X.1 X.2.1 dX3_product_119 (by decide) ?_
      refine lv_lushr (v := (mz_ushr v14 27)) X.1 X.2.1 dX3_product_121 rfl ?_
      refine lv_ladd X.1 X.2.1 dX3_product_122 ?_
      refine mz_topl hr (fun v15 hv15 hr => ?_)
      refine mz_lstore X [(14, true, .long v15), (12, true, .long v14), (10, true, .long v13), (8, true, .long v11), (7, false, .int v9), (6, false, .int v6), (4, true, .long v1), (0, true, .long j0), (2, true, .long j2)] dX3_product_123 hl (by decide) rfl (fun ls hl => ?_)
      refine lv_lload X.1 X.2.1 dX3_product_125 (mz_at hl 3 rfl) ?_
      refine lv_bipush (v := 27) X.1 X.2.1 dX3_product_127 (by decide) ?_
      refine lv_lushr (v := (mz_ushr v11 27)) X.1 X.2.1 dX3_product_129 rfl ?_
      refine lv_lload X.1 X.2.1 dX3_product_130 (mz_at hl 2 rfl) ?_
      refine lv_bipush (v := 27) X.1 X.2.1 dX3_product_132 (by decide) ?_
      refine lv_lushr (v := (mz_ushr v13 27)) X.1 X.2.1 dX3_product_134 rfl ?_
      refine lv_lmul X.1 X.2.1 dX3_product_135 ?_
      refine lv_lload X.1 X.2.1 dX3_product_136 (mz_at hl 0 rfl) ?_
      refine lv_bipush (v := 27) X.1 X.2.1 dX3_product_138 (by decide) ?_
      refine lv_lushr (v := (mz_ushr v15 27)) X.1 X.2.1 dX3_product_140 rfl ?_
      refine lv_ladd X.1 X.2.1 dX3_product_141 ?_
      refine mz_topl hr (fun v16 hv16 hr => ?_)
      refine mz_lstore X [(16, true, .long v16), (14, true, .long v15), (12, true, .long v14), (10, true, .long v13), (8, true, .long v11), (7, false, .int v9), (6, false, .int v6), (4, true, .long v1), (0, true, .long j0), (2, true, .long j2)] dX3_product_142 hl (by decide) rfl (fun ls hl => ?_)
      refine lv_lload X.1 X.2.1 dX3_product_144 (mz_at hl 1 rfl) ?_
      refine mz_ldc2 (v := 134217727) X (mz_tb 899 (by decide +kernel) rfl) dX3_product_146 ?_
      refine lv_land X.1 X.2.1 dX3_product_149 ?_
      refine lv_bipush (v := 27) X.1 X.2.1 dX3_product_150 (by decide) ?_
      refine lv_lshl (v := (mz_shl (v15 &&& 134217727) 27)) X.1 X.2.1 dX3_product_152 rfl ?_
      refine lv_lload X.1 X.2.1 dX3_product_153 (mz_at hl 2 rfl) ?_
      refine mz_ldc2 (v := 134217727) X (mz_tb 899 (by decide +kernel) rfl) dX3_product_155 ?_
      refine lv_land X.1 X.2.1 dX3_product_158 ?_
      refine lv_lor X.1 X.2.1 dX3_product_159 ?_
      refine mz_topl hr (fun v17 hv17 hr => ?_)
      refine mz_lstore X [(18, true, .long v17), (16, true, .long v16), (14, true, .long v15), (12, true, .long v14), (10, true, .long v13), (8, true, .long v11), (7, false, .int v9), (6, false, .int v6), (4, true, .long v1), (0, true, .long j0), (2, true, .long j2)] dX3_product_160 hl (by decide) rfl (fun ls hl => ?_)
      refine lv_lload X.1 X.2.1 dX3_product_162 (mz_at hl 1 rfl) ?_
      refine lv_bipush (v := 9) X.1 X.2.1 dX3_product_164 (by decide) ?_
      refine lv_lshl (v := (mz_shl v16 9)) X.1 X.2.1 dX3_product_166 rfl ?_
      refine lv_lload X.1 X.2.1 dX3_product_167 (mz_at hl 0 rfl) ?_
      refine lv_bipush (v := 45) X.1 X.2.1 dX3_product_169 (by decide) ?_
      refine mz_kS Value.long X hH hS hl.1.1 [.long v17, .int 45] [.long (mz_shl v16 9)] hr (ct_X3_shiftedDown l g h v17 45) mb_RX3_63 im_X3_shiftedDown rfl (Nat.le_of_ble_eq_true rfl) ⟨Nat.le_of_ble_eq_true rfl, Nat.le_of_ble_eq_true rfl⟩ hc hs dX3_product_171 rfl (fun v18 h H locs cells slots dc ds hr hH hS hc hs => ?_)
      refine lv_lor X.1 X.2.1 dX3_product_174 ?_
      refine mz_topl hr (fun v19 hv19 hr => ?_)
      refine mz_lstore X [(20, true, .long v19), (18, true, .long v17), (16, true, .long v16), (14, true, .long v15), (12, true, .long v14), (10, true, .long v13), (8, true, .long v11), (7, false, .int v9), (6, false, .int v6), (4, true, .long v1), (0, true, .long j0), (2, true, .long j2)] dX3_product_175 hl (by decide) rfl (fun ls hl => ?_)
      refine lv_lload_n X.1 X.2.1 dX3_product_177 rfl (mz_at hl 10 rfl) ?_
      refine mz_kS Value.int X hH hS hl.1.1 [.long j0] [] hr (ct_X3_powerOf l g h j0) mb_RX3_42 im_X3_powerOf rfl (Nat.le_of_ble_eq_true rfl) ⟨Nat.le_of_ble_eq_true rfl, Nat.le_of_ble_eq_true rfl⟩ hc hs dX3_product_178 rfl (fun v20 h H locs cells slots dc ds hr hH hS hc hs => ?_)
      refine lv_iload X.1 X.2.1 dX3_product_181 (mz_at hl 8 rfl) ?_
      refine lv_isub X.1 X.2.1 dX3_product_183 ?_
      refine lv_lload_n X.1 X.2.1 dX3_product_184 rfl (mz_at hl 11 rfl) ?_
      refine mz_kS Value.int X hH hS hl.1.1 [.long j2] [.int (v20 - v6)] hr (ct_X3_powerOf l g h j2) mb_RX3_42 im_X3_powerOf rfl (Nat.le_of_ble_eq_true rfl) ⟨Nat.le_of_ble_eq_true rfl, Nat.le_of_ble_eq_true rfl⟩ hc hs dX3_product_185 rfl (fun v21 h H locs cells slots dc ds hr hH hS hc hs => ?_)
      refine lv_iadd X.1 X.2.1 dX3_product_188 ?_
      refine lv_iload X.1 X.2.1 dX3_product_189 (mz_at hl 7 rfl) ?_
      refine lv_isub X.1 X.2.1 dX3_product_191 ?_
      refine mz_topi hr (fun v22 hv22 hr => ?_)
      refine mz_istore X [(22, false, .int v22), (20, true, .long v19), (18, true, .long v17), (16, true, .long v16), (14, true, .long v15), (12, true, .long v14), (10, true, .long v13), (8, true, .long v11), (7, false, .int v9), (6, false, .int v6), (4, true, .long v1), (0, true, .long j0), (2, true, .long j2)] dX3_product_192 hl (by decide) rfl (fun ls hl => ?_)
      refine lv_lload X.1 X.2.1 dX3_product_194 (mz_at hl 10 rfl) ?_
      refine lv_lload X.1 X.2.1 dX3_product_196 (mz_at hl 1 rfl) ?_
      refine lv_iload X.1 X.2.1 dX3_product_198 (mz_at hl 0 rfl) ?_
      refine lv_bipush (v := 54) X.1 X.2.1 dX3_product_200 (by decide) ?_
      refine lv_iadd X.1 X.2.1 dX3_product_202 ?_
      refine lv_bipush (v := 9) X.1 X.2.1 dX3_product_203 (by decide) ?_
      refine lv_isub X.1 X.2.1 dX3_product_205 ?_
      refine lv_iconst (v := 0) X.1 X.2.1 dX3_product_206 (by decide) ?_
      refine mz_kS Value.long X hH hS hl.1.1 [.long v1, .long v19, .int ((v22 + 54) - 9), .int 0] [] hr (ct_X3_rounded l g h v1 v19 ((v22 + 54) - 9) 0) mb_RX3_38 im_X3_rounded rfl (Nat.le_of_ble_eq_true rfl) ⟨Nat.le_of_ble_eq_true rfl, Nat.le_of_ble_eq_true rfl⟩ hc hs dX3_product_207 rfl (fun v23 h H locs cells slots dc ds hr hH hS hc hs => ?_)
      exact mz_lret Y dX3_product_210 hH hS hc hs hr
    · refine lv_lload X.1 X.2.1 dX3_product_32 (mz_at hl 0 rfl) ?_
      exact mz_lret Y dX3_product_34 hH hS hc hs hr
  · refine lv_lload X.1 X.2.1 dX3_product_16 (mz_at hl 0 rfl) ?_
    refine lv_lload_n X.1 X.2.1 dX3_product_18 rfl (mz_at hl 1 rfl) ?_
    refine mz_ldc2 (v := 9223372036854775807) X (mz_tb 677 (by decide +kernel) rfl) dX3_product_19 ?_
    refine lv_land X.1 X.2.1 dX3_product_22 ?_
    refine lv_lor X.1 X.2.1 dX3_product_23 ?_
    exact mz_lret Y dX3_product_24 hH hS hc hs hr
set_option maxRecDepth 100000 in
theorem ct_X3_product (l : Launch) (g : mz_G) (h : mz_H) (j0 : Int64) (j2 : Int64) (r : Int64) (hf : mz_H) (k n : Nat) (hr : fn_X3_product h j0 j2 = some (r, hf, k, n)) : mz_C l g yX3_product cX3_product 23 (some .long) 3 80 [.long j0, .long j2] h (some (Value.long r)) hf k n := by
  refine mz_met (as := [(true, .long j0), (true, .long j2)]) (plainFor_of_name (by decide)) (mz_c1 rfl (mz_c1 rfl mz_c0)) (Nat.le_of_ble_eq_true rfl) ?_
  intro p e s m args below meth c Y
  exact pf_X3_product_b0 r Y h j0 j2 _ _ hr
theorem dX2_init_0 : decode cX2_init 0 = .ok (.aload_n 0, 1) := by decide +kernel
theorem dX2_init_1 : decode cX2_init 1 = .ok (.invokespecial 1, 3) := by decide +kernel
theorem dX2_init_4 : decode cX2_init 4 = .ok (.aload_n 0, 1) := by decide +kernel
theorem dX2_init_5 : decode cX2_init 5 = .ok (.iload_n 1, 1) := by decide +kernel
theorem dX2_init_6 : decode cX2_init 6 = .ok (.putfield 7, 3) := by decide +kernel
theorem dX2_init_9 : decode cX2_init 9 = .ok (.aload_n 0, 1) := by decide +kernel
theorem dX2_init_10 : decode cX2_init 10 = .ok (.iload_n 2, 1) := by decide +kernel
theorem dX2_init_11 : decode cX2_init 11 = .ok (.putfield 13, 3) := by decide +kernel
theorem dX2_init_14 : decode cX2_init 14 = .ok (.aload_n 0, 1) := by decide +kernel
theorem dX2_init_15 : decode cX2_init 15 = .ok (.iload_n 3, 1) := by decide +kernel
theorem dX2_init_16 : decode cX2_init 16 = .ok (.putfield 16, 3) := by decide +kernel
theorem dX2_init_19 : decode cX2_init 19 = .ok (.aload_n 0, 1) := by decide +kernel
theorem dX2_init_20 : decode cX2_init 20 = .ok (.iload 4, 2) := by decide +kernel
theorem dX2_init_22 : decode cX2_init 22 = .ok (.putfield 19, 3) := by decide +kernel
theorem dX2_init_25 : decode cX2_init 25 = .ok (.aload_n 0, 1) := by decide +kernel
theorem dX2_init_26 : decode cX2_init 26 = .ok (.iload 5, 2) := by decide +kernel
theorem dX2_init_28 : decode cX2_init 28 = .ok (.putfield 22, 3) := by decide +kernel
theorem dX2_init_31 : decode cX2_init 31 = .ok (.return_, 1) := by decide +kernel
def fn_X2_init (h : mz_H) (a0 : (Option Nat)) (x1 : Int32) (x2 : Int32) (x3 : Int32) (x4 : Int32) (x5 : Int32) : mz_Res Unit :=
  mz_chk (a0).isSome <|
  mz_op (mz_pF h a0 2 0 (Value.int x1)) fun h =>
  mz_op (mz_pF h a0 2 1 (Value.int x2)) fun h =>
  mz_op (mz_pF h a0 2 2 (Value.int x3)) fun h =>
  mz_op (mz_pF h a0 2 3 (Value.int x4)) fun h =>
  mz_op (mz_pF h a0 2 4 (Value.int x5)) fun h =>
  mz_ret () h
set_option maxHeartbeats 4000000 in
set_option maxRecDepth 100000 in
theorem pf_X2_init_b0 (r : Unit) (Y : mz_Y p g RX2 cX2_init 6 none "<init>" (mz_AF h0) s m args meth c) (h : mz_H) (a0 : (Option Nat)) (x1 : Int32) (x2 : Int32) (x3 : Int32) (x4 : Int32) (x5 : Int32) (dc ds : Nat) (hr : fn_X2_init h a0 x1 x2 x3 x4 x5 = some (r, hf, dc, ds)) : mz_Go l g p e s m args below meth c 1 20 DC DS h0 none hf 6 0 [(0, false, va_rf a0), (1, false, .int x1), (2, false, .int x2), (3, false, .int x3), (4, false, .int x4), (5, false, .int x5)] [] h dc ds := by
  unfold fn_X2_init at hr
  intro H locs cells slots ls hH hS hl hc hs
  have X := Y.1
  refine mz_aload_n X dX2_init_0 rfl (mz_at hl 0 rfl) ?_
  refine mz_oinit X hl.1.1 oi_RX2_1 (Nat.le_of_ble_eq_true rfl) ⟨Nat.le_of_ble_eq_true rfl, Nat.le_of_ble_eq_true rfl⟩ dX2_init_1 hr (fun hr => ?_)
  refine mz_aload_n X dX2_init_4 rfl (mz_at hl 0 rfl) ?_
  refine lv_iload_n X.1 X.2.1 dX2_init_5 rfl (mz_at hl 1 rfl) ?_
  refine mz_putF X Y.2.2.2 hH hS fp_RX2_7 dX2_init_6 rfl rfl hr (fun h H locs hr hH hS => ?_)
  refine mz_aload_n X dX2_init_9 rfl (mz_at hl 0 rfl) ?_
  refine lv_iload_n X.1 X.2.1 dX2_init_10 rfl (mz_at hl 2 rfl) ?_
  refine mz_putF X Y.2.2.2 hH hS fp_RX2_13 dX2_init_11 rfl rfl hr (fun h H locs hr hH hS => ?_)
  refine mz_aload_n X dX2_init_14 rfl (mz_at hl 0 rfl) ?_
  refine lv_iload_n X.1 X.2.1 dX2_init_15 rfl (mz_at hl 3 rfl) ?_
  refine mz_putF X Y.2.2.2 hH hS fp_RX2_16 dX2_init_16 rfl rfl hr (fun h H locs hr hH hS => ?_)
  refine mz_aload_n X dX2_init_19 rfl (mz_at hl 0 rfl) ?_
  refine lv_iload X.1 X.2.1 dX2_init_20 (mz_at hl 4 rfl) ?_
  refine mz_putF X Y.2.2.2 hH hS fp_RX2_19 dX2_init_22 rfl rfl hr (fun h H locs hr hH hS => ?_)
  refine mz_aload_n X dX2_init_25 rfl (mz_at hl 0 rfl) ?_
  refine lv_iload X.1 X.2.1 dX2_init_26 (mz_at hl 5 rfl) ?_
  refine mz_putF X Y.2.2.2 hH hS fp_RX2_22 dX2_init_28 rfl rfl hr (fun h H locs hr hH hS => ?_)
  exact mz_vret Y dX2_init_31 hH hS hc hs hr
set_option maxRecDepth 100000 in
theorem ct_X2_init (l : Launch) (g : mz_G) (h : mz_H) (a0 : (Option Nat)) (x1 : Int32) (x2 : Int32) (x3 : Int32) (x4 : Int32) (x5 : Int32) (r : Unit) (hf : mz_H) (k n : Nat) (hr : fn_X2_init h a0 x1 x2 x3 x4 x5 = some (r, hf, k, n)) : mz_C l g yX2_init cX2_init 6 none 1 20 [va_rf a0, .int x1, .int x2, .int x3, .int x4, .int x5] h none hf k n := by
  refine mz_met (as := [(false, va_rf a0), (false, .int x1), (false, .int x2), (false, .int x3), (false, .int x4), (false, .int x5)]) (plainFor_of_name (by decide)) (mz_c1 (mz_cat_rf _) (mz_c1 rfl (mz_c1 rfl (mz_c1 rfl (mz_c1 rfl (mz_c1 rfl mz_c0)))))) (Nat.le_of_ble_eq_true rfl) ?_
  intro p e s m args below meth c Y
  exact pf_X2_init_b0 r Y h a0 x1 x2 x3 x4 x5 _ _ hr
theorem dX2_isMarked_0 : decode cX2_isMarked 0 = .ok (.aload_n 0, 1) := by decide +kernel
theorem dX2_isMarked_1 : decode cX2_isMarked 1 = .ok (.getfield 22, 3) := by decide +kernel
theorem dX2_isMarked_4 : decode cX2_isMarked 4 = .ok (.iload_n 1, 1) := by decide +kernel
theorem dX2_isMarked_5 : decode cX2_isMarked 5 = .ok (.iand, 1) := by decide +kernel
theorem dX2_isMarked_6 : decode cX2_isMarked 6 = .ok (.iload_n 1, 1) := by decide +kernel
theorem dX2_isMarked_7 : decode cX2_isMarked 7 = .ok (.if_icmp .ne 7, 3) := by decide +kernel
theorem dX2_isMarked_10 : decode cX2_isMarked 10 = .ok (.iconst 1, 1) := by decide +kernel
theorem dX2_isMarked_11 : decode cX2_isMarked 11 = .ok (.goto 4, 3) := by decide +kernel
theorem dX2_isMarked_14 : decode cX2_isMarked 14 = .ok (.iconst 0, 1) := by decide +kernel
theorem dX2_isMarked_15 : decode cX2_isMarked 15 = .ok (.ireturn, 1) := by decide +kernel
def fn_X2_isMarked (h : mz_H) (a0 : (Option Nat)) (x1 : Int32) : mz_Res Int32 :=
  mz_op (mz_fI h a0 2 4) fun v1 =>
  if (v1 &&& x1) = x1 then
    mz_chk ((1 : Int32) &&& 1 == 1) (mz_ret 1 h)
  else
    mz_chk ((0 : Int32) &&& 1 == 0) (mz_ret 0 h)
set_option maxHeartbeats 4000000 in
set_option maxRecDepth 100000 in
theorem pf_X2_isMarked_b0 (r : Int32) (Y : mz_Y p g RX2 cX2_isMarked 2 (some .boolean) "isMarked" (mz_AF h0) s m args meth c) (h : mz_H) (a0 : (Option Nat)) (x1 : Int32) (dc ds : Nat) (hr : fn_X2_isMarked h a0 x1 = some (r, hf, dc, ds)) : mz_Go l g p e s m args below meth c 0 0 DC DS h0 (some (Value.int r)) hf 2 0 [(0, false, va_rf a0), (1, false, .int x1)] [] h dc ds := by
  unfold fn_X2_isMarked at hr
  intro H locs cells slots ls hH hS hl hc hs
  have X := Y.1
  refine mz_aload_n X dX2_isMarked_0 rfl (mz_at hl 0 rfl) ?_
  refine mz_getI X hH fl_RX2_22 dX2_isMarked_1 hr (fun v1 hr => ?_)
  refine lv_iload_n X.1 X.2.1 dX2_isMarked_4 rfl (mz_at hl 1 rfl) ?_
  refine lv_iand X.1 X.2.1 dX2_isMarked_5 ?_
  refine lv_iload_n X.1 X.2.1 dX2_isMarked_6 rfl (mz_at hl 1 rfl) ?_
  refine mz_icmp_ne X 14 dX2_isMarked_7 (by decide) hr (fun hr => ?_) (fun hr => ?_)
  · refine lv_iconst (v := 0) X.1 X.2.1 dX2_isMarked_14 (by decide) ?_
    exact mz_zret Y dX2_isMarked_15 hH hS hc hs hr
  · refine lv_iconst (v := 1) X.1 X.2.1 dX2_isMarked_10 (by decide) ?_
    refine lv_goto (tgt := 15) X.1 X.2.1 dX2_isMarked_11 (by decide) ?_
    exact mz_zret Y dX2_isMarked_15 hH hS hc hs hr
set_option maxRecDepth 100000 in
theorem ct_X2_isMarked (l : Launch) (g : mz_G) (h : mz_H) (a0 : (Option Nat)) (x1 : Int32) (r : Int32) (hf : mz_H) (k n : Nat) (hr : fn_X2_isMarked h a0 x1 = some (r, hf, k, n)) : mz_C l g yX2_isMarked cX2_isMarked 2 (some .boolean) 0 0 [va_rf a0, .int x1] h (some (Value.int r)) hf k n := by
  refine mz_met (as := [(false, va_rf a0), (false, .int x1)]) (plainFor_of_name (by decide)) (mz_c1 (mz_cat_rf _) (mz_c1 rfl mz_c0)) (Nat.le_of_ble_eq_true rfl) ?_
  intro p e s m args below meth c Y
  exact pf_X2_isMarked_b0 r Y h a0 x1 _ _ hr
theorem dX1_init_0 : decode cX1_init 0 = .ok (.aload_n 0, 1) := by decide +kernel
theorem dX1_init_1 : decode cX1_init 1 = .ok (.invokespecial 3, 3) := by decide +kernel
theorem dX1_init_4 : decode cX1_init 4 = .ok (.aload_n 0, 1) := by decide +kernel
theorem dX1_init_5 : decode cX1_init 5 = .ok (.iload_n 1, 1) := by decide +kernel
theorem dX1_init_6 : decode cX1_init 6 = .ok (.putfield 9, 3) := by decide +kernel
theorem dX1_init_9 : decode cX1_init 9 = .ok (.return_, 1) := by decide +kernel
def fn_X1_init (h : mz_H) (a0 : (Option Nat)) (x1 : Int32) : mz_Res Unit :=
  mz_chk (a0).isSome <|
  mz_op (mz_pF h a0 1 0 (Value.int x1)) fun h =>
  mz_ret () h
set_option maxHeartbeats 4000000 in
set_option maxRecDepth 100000 in
theorem pf_X1_init_b0 (r : Unit) (Y : mz_Y p g RX1 cX1_init 2 none "<init>" (mz_AF h0) s m args meth c) (h : mz_H) (a0 : (Option Nat)) (x1 : Int32) (dc ds : Nat) (hr : fn_X1_init h a0 x1 = some (r, hf, dc, ds)) : mz_Go l g p e s m args below meth c 1 20 DC DS h0 none hf 2 0 [(0, false, va_rf a0), (1, false, .int x1)] [] h dc ds := by
  unfold fn_X1_init at hr
  intro H locs cells slots ls hH hS hl hc hs
  have X := Y.1
  refine mz_aload_n X dX1_init_0 rfl (mz_at hl 0 rfl) ?_
  refine mz_oinit X hl.1.1 oi_RX1_3 (Nat.le_of_ble_eq_true rfl) ⟨Nat.le_of_ble_eq_true rfl, Nat.le_of_ble_eq_true rfl⟩ dX1_init_1 hr (fun hr => ?_)
  refine mz_aload_n X dX1_init_4 rfl (mz_at hl 0 rfl) ?_
  refine lv_iload_n X.1 X.2.1 dX1_init_5 rfl (mz_at hl 1 rfl) ?_
  refine mz_putF X Y.2.2.2 hH hS fp_RX1_9 dX1_init_6 rfl rfl hr (fun h H locs hr hH hS => ?_)
  exact mz_vret Y dX1_init_9 hH hS hc hs hr
set_option maxRecDepth 100000 in
theorem ct_X1_init (l : Launch) (g : mz_G) (h : mz_H) (a0 : (Option Nat)) (x1 : Int32) (r : Unit) (hf : mz_H) (k n : Nat) (hr : fn_X1_init h a0 x1 = some (r, hf, k, n)) : mz_C l g yX1_init cX1_init 2 none 1 20 [va_rf a0, .int x1] h none hf k n := by
  refine mz_met (as := [(false, va_rf a0), (false, .int x1)]) (plainFor_of_name (by decide)) (mz_c1 (mz_cat_rf _) (mz_c1 rfl mz_c0)) (Nat.le_of_ble_eq_true rfl) ?_
  intro p e s m args below meth c Y
  exact pf_X1_init_b0 r Y h a0 x1 _ _ hr
theorem dX1_forget_0 : decode cX1_forget 0 = .ok (.aload_n 0, 1) := by decide +kernel
theorem dX1_forget_1 : decode cX1_forget 1 = .ok (.iconst 0, 1) := by decide +kernel
theorem dX1_forget_2 : decode cX1_forget 2 = .ok (.putfield 15, 3) := by decide +kernel
theorem dX1_forget_5 : decode cX1_forget 5 = .ok (.aload_n 0, 1) := by decide +kernel
theorem dX1_forget_6 : decode cX1_forget 6 = .ok (.iconst 0, 1) := by decide +kernel
theorem dX1_forget_7 : decode cX1_forget 7 = .ok (.putfield 18, 3) := by decide +kernel
theorem dX1_forget_10 : decode cX1_forget 10 = .ok (.aload_n 0, 1) := by decide +kernel
theorem dX1_forget_11 : decode cX1_forget 11 = .ok (.bipush (-9), 2) := by decide +kernel
theorem dX1_forget_13 : decode cX1_forget 13 = .ok (.putfield 21, 3) := by decide +kernel
theorem dX1_forget_16 : decode cX1_forget 16 = .ok (.return_, 1) := by decide +kernel
def fn_X1_forget (h : mz_H) (a0 : (Option Nat)) : mz_Res Unit :=
  mz_op (mz_pF h a0 1 6 (Value.int 0)) fun h =>
  mz_op (mz_pF h a0 1 5 (Value.int 0)) fun h =>
  mz_op (mz_pF h a0 1 7 (Value.int (-9))) fun h =>
  mz_ret () h
set_option maxHeartbeats 4000000 in
set_option maxRecDepth 100000 in
theorem pf_X1_forget_b0 (r : Unit) (Y : mz_Y p g RX1 cX1_forget 1 none "forget" (mz_AF h0) s m args meth c) (h : mz_H) (a0 : (Option Nat)) (dc ds : Nat) (hr : fn_X1_forget h a0 = some (r, hf, dc, ds)) : mz_Go l g p e s m args below meth c 0 0 DC DS h0 none hf 1 0 [(0, false, va_rf a0)] [] h dc ds := by
  unfold fn_X1_forget at hr
  intro H locs cells slots ls hH hS hl hc hs
  have X := Y.1
  refine mz_aload_n X dX1_forget_0 rfl (mz_at hl 0 rfl) ?_
  refine lv_iconst (v := 0) X.1 X.2.1 dX1_forget_1 (by decide) ?_
  refine mz_put X hH hS fp_RX1_15 dX1_forget_2 rfl rfl hr (fun h H locs hr hH hS => ?_)
  refine mz_aload_n X dX1_forget_5 rfl (mz_at hl 0 rfl) ?_
  refine lv_iconst (v := 0) X.1 X.2.1 dX1_forget_6 (by decide) ?_
  refine mz_put X hH hS fp_RX1_18 dX1_forget_7 rfl rfl hr (fun h H locs hr hH hS => ?_)
  refine mz_aload_n X dX1_forget_10 rfl (mz_at hl 0 rfl) ?_
  refine lv_bipush (v := (-9)) X.1 X.2.1 dX1_forget_11 (by decide) ?_
  refine mz_put X hH hS fp_RX1_21 dX1_forget_13 rfl rfl hr (fun h H locs hr hH hS => ?_)
  exact mz_vret Y dX1_forget_16 hH hS hc hs hr
set_option maxRecDepth 100000 in
theorem ct_X1_forget (l : Launch) (g : mz_G) (h : mz_H) (a0 : (Option Nat)) (r : Unit) (hf : mz_H) (k n : Nat) (hr : fn_X1_forget h a0 = some (r, hf, k, n)) : mz_C l g yX1_forget cX1_forget 1 none 0 0 [va_rf a0] h none hf k n := by
  refine mz_met (as := [(false, va_rf a0)]) (plainFor_of_name (by decide)) (mz_c1 (mz_cat_rf _) mz_c0) (Nat.le_of_ble_eq_true rfl) ?_
  intro p e s m args below meth c Y
  exact pf_X1_forget_b0 r Y h a0 _ _ hr
theorem dX1_take_0 : decode cX1_take 0 = .ok (.aload_n 0, 1) := by decide +kernel
theorem dX1_take_1 : decode cX1_take 1 = .ok (.getfield 15, 3) := by decide +kernel
theorem dX1_take_4 : decode cX1_take 4 = .ok (.ifCond .ne 35, 3) := by decide +kernel
theorem dX1_take_7 : decode cX1_take 7 = .ok (.aload_n 0, 1) := by decide +kernel
theorem dX1_take_8 : decode cX1_take 8 = .ok (.iload_n 1, 1) := by decide +kernel
theorem dX1_take_9 : decode cX1_take 9 = .ok (.putfield 24, 3) := by decide +kernel
theorem dX1_take_12 : decode cX1_take 12 = .ok (.aload_n 0, 1) := by decide +kernel
theorem dX1_take_13 : decode cX1_take 13 = .ok (.aload_n 2, 1) := by decide +kernel
theorem dX1_take_14 : decode cX1_take 14 = .ok (.getfield 27, 3) := by decide +kernel
theorem dX1_take_17 : decode cX1_take 17 = .ok (.putfield 32, 3) := by decide +kernel
theorem dX1_take_20 : decode cX1_take 20 = .ok (.aload_n 0, 1) := by decide +kernel
theorem dX1_take_21 : decode cX1_take 21 = .ok (.aload_n 2, 1) := by decide +kernel
theorem dX1_take_22 : decode cX1_take 22 = .ok (.getfield 33, 3) := by decide +kernel
theorem dX1_take_25 : decode cX1_take 25 = .ok (.putfield 36, 3) := by decide +kernel
theorem dX1_take_28 : decode cX1_take 28 = .ok (.aload_n 0, 1) := by decide +kernel
theorem dX1_take_29 : decode cX1_take 29 = .ok (.aload_n 2, 1) := by decide +kernel
theorem dX1_take_30 : decode cX1_take 30 = .ok (.getfield 37, 3) := by decide +kernel
theorem dX1_take_33 : decode cX1_take 33 = .ok (.putfield 40, 3) := by decide +kernel
theorem dX1_take_36 : decode cX1_take 36 = .ok (.goto 39, 3) := by decide +kernel
theorem dX1_take_39 : decode cX1_take 39 = .ok (.aload_n 0, 1) := by decide +kernel
theorem dX1_take_40 : decode cX1_take 40 = .ok (.getfield 21, 3) := by decide +kernel
theorem dX1_take_43 : decode cX1_take 43 = .ok (.bipush (-9), 2) := by decide +kernel
theorem dX1_take_45 : decode cX1_take 45 = .ok (.if_icmp .ne 30, 3) := by decide +kernel
theorem dX1_take_48 : decode cX1_take 48 = .ok (.aload_n 0, 1) := by decide +kernel
theorem dX1_take_49 : decode cX1_take 49 = .ok (.getfield 36, 3) := by decide +kernel
theorem dX1_take_52 : decode cX1_take 52 = .ok (.aload_n 2, 1) := by decide +kernel
theorem dX1_take_53 : decode cX1_take 53 = .ok (.getfield 33, 3) := by decide +kernel
theorem dX1_take_56 : decode cX1_take 56 = .ok (.if_icmp .ne 14, 3) := by decide +kernel
theorem dX1_take_59 : decode cX1_take 59 = .ok (.aload_n 0, 1) := by decide +kernel
theorem dX1_take_60 : decode cX1_take 60 = .ok (.getfield 40, 3) := by decide +kernel
theorem dX1_take_63 : decode cX1_take 63 = .ok (.aload_n 2, 1) := by decide +kernel
theorem dX1_take_64 : decode cX1_take 64 = .ok (.getfield 37, 3) := by decide +kernel
theorem dX1_take_67 : decode cX1_take 67 = .ok (.if_icmp .eq 8, 3) := by decide +kernel
theorem dX1_take_70 : decode cX1_take 70 = .ok (.aload_n 0, 1) := by decide +kernel
theorem dX1_take_71 : decode cX1_take 71 = .ok (.iload_n 1, 1) := by decide +kernel
theorem dX1_take_72 : decode cX1_take 72 = .ok (.putfield 21, 3) := by decide +kernel
theorem dX1_take_75 : decode cX1_take 75 = .ok (.aload_n 0, 1) := by decide +kernel
theorem dX1_take_76 : decode cX1_take 76 = .ok (.dup, 1) := by decide +kernel
theorem dX1_take_77 : decode cX1_take 77 = .ok (.getfield 18, 3) := by decide +kernel
theorem dX1_take_80 : decode cX1_take 80 = .ok (.aload_n 2, 1) := by decide +kernel
theorem dX1_take_81 : decode cX1_take 81 = .ok (.getfield 41, 3) := by decide +kernel
theorem dX1_take_84 : decode cX1_take 84 = .ok (.ior, 1) := by decide +kernel
theorem dX1_take_85 : decode cX1_take 85 = .ok (.putfield 18, 3) := by decide +kernel
theorem dX1_take_88 : decode cX1_take 88 = .ok (.aload_n 0, 1) := by decide +kernel
theorem dX1_take_89 : decode cX1_take 89 = .ok (.dup, 1) := by decide +kernel
theorem dX1_take_90 : decode cX1_take 90 = .ok (.getfield 15, 3) := by decide +kernel
theorem dX1_take_93 : decode cX1_take 93 = .ok (.iconst 1, 1) := by decide +kernel
theorem dX1_take_94 : decode cX1_take 94 = .ok (.iadd, 1) := by decide +kernel
theorem dX1_take_95 : decode cX1_take 95 = .ok (.putfield 15, 3) := by decide +kernel
theorem dX1_take_98 : decode cX1_take 98 = .ok (.return_, 1) := by decide +kernel
def fn_X1_take_b75 (h : mz_H) (a0 : (Option Nat)) (a2 : (Option Nat)) : mz_Res Unit :=
  mz_op (mz_fI h a0 1 5) fun v1 =>
  mz_op (mz_fI h a2 2 4) fun v2 =>
  mz_op (mz_pF h a0 1 5 (Value.int (v1 ||| v2))) fun h =>
  mz_op (mz_fI h a0 1 6) fun v3 =>
  mz_op (mz_pF h a0 1 6 (Value.int (v3 + 1))) fun h =>
  mz_ret () h
set_option maxHeartbeats 4000000 in
set_option maxRecDepth 100000 in
theorem pf_X1_take_b75 (r : Unit) (Y : mz_Y p g RX1 cX1_take 3 none "take" (mz_AF h0) s m args meth c) (h : mz_H) (a0 : (Option Nat)) (a2 : (Option Nat)) (dc ds : Nat) (hr : fn_X1_take_b75 h a0 a2 = some (r, hf, dc, ds)) : mz_Go l g p e s m args below meth c 0 0 DC DS h0 none hf 3 75 [(0, false, va_rf a0), (2, false, va_rf a2)] [] h dc ds := by
  unfold fn_X1_take_b75 at hr
  intro H locs cells slots ls hH hS hl hc hs
  have X := Y.1
  refine mz_aload_n X dX1_take_75 rfl (mz_at hl 0 rfl) ?_
  refine mz_dupR X dX1_take_76 ?_
  refine mz_getI X hH fl_RX1_18 dX1_take_77 hr (fun v1 hr => ?_)
  refine mz_aload_n X dX1_take_80 rfl (mz_at hl 1 rfl) ?_
  refine mz_getI X hH fl_RX1_41 dX1_take_81 hr (fun v2 hr => ?_)
  refine lv_ior X.1 X.2.1 dX1_take_84 ?_
  refine mz_put X hH hS fp_RX1_18 dX1_take_85 rfl rfl hr (fun h H locs hr hH hS => ?_)
  refine mz_aload_n X dX1_take_88 rfl (mz_at hl 0 rfl) ?_
  refine mz_dupR X dX1_take_89 ?_
  refine mz_getI X hH fl_RX1_15 dX1_take_90 hr (fun v3 hr => ?_)
  refine lv_iconst (v := 1) X.1 X.2.1 dX1_take_93 (by decide) ?_
  refine lv_iadd X.1 X.2.1 dX1_take_94 ?_
  refine mz_put X hH hS fp_RX1_15 dX1_take_95 rfl rfl hr (fun h H locs hr hH hS => ?_)
  exact mz_vret Y dX1_take_98 hH hS hc hs hr
def fn_X1_take_b70 (h : mz_H) (a0 : (Option Nat)) (x1 : Int32) (a2 : (Option Nat)) : mz_Res Unit :=
  mz_op (mz_pF h a0 1 7 (Value.int x1)) fun h =>
  fn_X1_take_b75 h a0 a2
set_option maxHeartbeats 4000000 in
set_option maxRecDepth 100000 in
theorem pf_X1_take_b70 (r : Unit) (Y : mz_Y p g RX1 cX1_take 3 none "take" (mz_AF h0) s m args meth c) (h : mz_H) (a0 : (Option Nat)) (x1 : Int32) (a2 : (Option Nat)) (dc ds : Nat) (hr : fn_X1_take_b70 h a0 x1 a2 = some (r, hf, dc, ds)) : mz_Go l g p e s m args below meth c 0 0 DC DS h0 none hf 3 70 [(0, false, va_rf a0), (1, false, .int x1), (2, false, va_rf a2)] [] h dc ds := by
  unfold fn_X1_take_b70 at hr
  intro H locs cells slots ls hH hS hl hc hs
  have X := Y.1
  refine mz_aload_n X dX1_take_70 rfl (mz_at hl 0 rfl) ?_
  refine lv_iload_n X.1 X.2.1 dX1_take_71 rfl (mz_at hl 1 rfl) ?_
  refine mz_put X hH hS fp_RX1_21 dX1_take_72 rfl rfl hr (fun h H locs hr hH hS => ?_)
  exact pf_X1_take_b75 r Y h a0 a2 _ _ hr H locs cells slots ls hH hS (mz_sub hl [0, 2] rfl) hc hs
def fn_X1_take (h : mz_H) (a0 : (Option Nat)) (x1 : Int32) (a2 : (Option Nat)) : mz_Res Unit :=
  mz_op (mz_fI h a0 1 6) fun v1 =>
  if v1 = 0 then
    mz_op (mz_pF h a0 1 1 (Value.int x1)) fun h =>
    mz_op (mz_fI h a2 2 0) fun v7 =>
    mz_op (mz_pF h a0 1 2 (Value.int v7)) fun h =>
    mz_op (mz_fI h a2 2 2) fun v8 =>
    mz_op (mz_pF h a0 1 3 (Value.int v8)) fun h =>
    mz_op (mz_fI h a2 2 3) fun v9 =>
    mz_op (mz_pF h a0 1 4 (Value.int v9)) fun h =>
    fn_X1_take_b75 h a0 a2
  else
    mz_op (mz_fI h a0 1 7) fun v2 =>
    if v2 = (-9) then
      mz_op (mz_fI h a0 1 3) fun v3 =>
      mz_op (mz_fI h a2 2 2) fun v4 =>
      if v3 = v4 then
        mz_op (mz_fI h a0 1 4) fun v5 =>
        mz_op (mz_fI h a2 2 3) fun v6 =>
        if v5 = v6 then
          fn_X1_take_b75 h a0 a2
        else
          fn_X1_take_b70 h a0 x1 a2
      else
        fn_X1_take_b70 h a0 x1 a2
    else
      fn_X1_take_b75 h a0 a2
set_option maxHeartbeats 4000000 in
set_option maxRecDepth 100000 in
theorem pf_X1_take_b0 (r : Unit) (Y : mz_Y p g RX1 cX1_take 3 none "take" (mz_AF h0) s m args meth c) (h : mz_H) (a0 : (Option Nat)) (x1 : Int32) (a2 : (Option Nat)) (dc ds : Nat) (hr : fn_X1_take h a0 x1 a2 = some (r, hf, dc, ds)) : mz_Go l g p e s m args below meth c 0 0 DC DS h0 none hf 3 0 [(0, false, va_rf a0), (1, false, .int x1), (2, false, va_rf a2)] [] h dc ds := by
  unfold fn_X1_take at hr
  intro H locs cells slots ls hH hS hl hc hs
  have X := Y.1
  refine mz_aload_n X dX1_take_0 rfl (mz_at hl 0 rfl) ?_
  refine mz_getI X hH fl_RX1_15 dX1_take_1 hr (fun v1 hr => ?_)
  refine mz_if_ne X 39 dX1_take_4 (by decide) hr (fun hr => ?_) (fun hr => ?_)
  · refine mz_aload_n X dX1_take_39 rfl (mz_at hl 0 rfl) ?_
    refine mz_getI X hH fl_RX1_21 dX1_take_40 hr (fun v2 hr => ?_)
    refine lv_bipush (v := (-9)) X.1 X.2.1 dX1_take_43 (by decide) ?_
    refine mz_icmp_ne X 75 dX1_take_45 (by decide) hr (fun hr => ?_) (fun hr => ?_)
    · exact pf_X1_take_b75 r Y h a0 a2 _ _ hr H locs cells slots ls hH hS (mz_sub hl [0, 2] rfl) hc hs
    · refine mz_aload_n X dX1_take_48 rfl (mz_at hl 0 rfl) ?_
      refine mz_getI X hH fl_RX1_36 dX1_take_49 hr (fun v3 hr => ?_)
      refine mz_aload_n X dX1_take_52 rfl (mz_at hl 2 rfl) ?_
      refine mz_getI X hH fl_RX1_33 dX1_take_53 hr (fun v4 hr => ?_)
      refine mz_icmp_ne X 70 dX1_take_56 (by decide) hr (fun hr => ?_) (fun hr => ?_)
      · exact pf_X1_take_b70 r Y h a0 x1 a2 _ _ hr H locs cells slots ls hH hS (mz_sub hl [0, 1, 2] rfl) hc hs
      · refine mz_aload_n X dX1_take_59 rfl (mz_at hl 0 rfl) ?_
        refine mz_getI X hH fl_RX1_40 dX1_take_60 hr (fun v5 hr => ?_)
        refine mz_aload_n X dX1_take_63 rfl (mz_at hl 2 rfl) ?_
        refine mz_getI X hH fl_RX1_37 dX1_take_64 hr (fun v6 hr => ?_)
        refine mz_icmp_eq X 75 dX1_take_67 (by decide) hr (fun hr => ?_) (fun hr => ?_)
        · exact pf_X1_take_b75 r Y h a0 a2 _ _ hr H locs cells slots ls hH hS (mz_sub hl [0, 2] rfl) hc hs
        · exact pf_X1_take_b70 r Y h a0 x1 a2 _ _ hr H locs cells slots ls hH hS (mz_sub hl [0, 1, 2] rfl) hc hs
  · refine mz_aload_n X dX1_take_7 rfl (mz_at hl 0 rfl) ?_
    refine lv_iload_n X.1 X.2.1 dX1_take_8 rfl (mz_at hl 1 rfl) ?_
    refine mz_put X hH hS fp_RX1_24 dX1_take_9 rfl rfl hr (fun h H locs hr hH hS => ?_)
    refine mz_aload_n X dX1_take_12 rfl (mz_at hl 0 rfl) ?_
    refine mz_aload_n X dX1_take_13 rfl (mz_at hl 2 rfl) ?_
    refine mz_getI X hH fl_RX1_27 dX1_take_14 hr (fun v7 hr => ?_)
    refine mz_put X hH hS fp_RX1_32 dX1_take_17 rfl rfl hr (fun h H locs hr hH hS => ?_)
    refine mz_aload_n X dX1_take_20 rfl (mz_at hl 0 rfl) ?_
    refine mz_aload_n X dX1_take_21 rfl (mz_at hl 2 rfl) ?_
    refine mz_getI X hH fl_RX1_33 dX1_take_22 hr (fun v8 hr => ?_)
    refine mz_put X hH hS fp_RX1_36 dX1_take_25 rfl rfl hr (fun h H locs hr hH hS => ?_)
    refine mz_aload_n X dX1_take_28 rfl (mz_at hl 0 rfl) ?_
    refine mz_aload_n X dX1_take_29 rfl (mz_at hl 2 rfl) ?_
    refine mz_getI X hH fl_RX1_37 dX1_take_30 hr (fun v9 hr => ?_)
    refine mz_put X hH hS fp_RX1_40 dX1_take_33 rfl rfl hr (fun h H locs hr hH hS => ?_)
    refine lv_goto (tgt := 75) X.1 X.2.1 dX1_take_36 (by decide) ?_
    exact pf_X1_take_b75 r Y h a0 a2 _ _ hr H locs cells slots ls hH hS (mz_sub hl [0, 2] rfl) hc hs
set_option maxRecDepth 100000 in
theorem ct_X1_take (l : Launch) (g : mz_G) (h : mz_H) (a0 : (Option Nat)) (x1 : Int32) (a2 : (Option Nat)) (r : Unit) (hf : mz_H) (k n : Nat) (hr : fn_X1_take h a0 x1 a2 = some (r, hf, k, n)) : mz_C l g yX1_take cX1_take 3 none 0 0 [va_rf a0, .int x1, va_rf a2] h none hf k n := by
  refine mz_met (as := [(false, va_rf a0), (false, .int x1), (false, va_rf a2)]) (plainFor_of_name (by decide)) (mz_c1 (mz_cat_rf _) (mz_c1 rfl (mz_c1 (mz_cat_rf _) mz_c0))) (Nat.le_of_ble_eq_true rfl) ?_
  intro p e s m args below meth c Y
  exact pf_X1_take_b0 r Y h a0 x1 a2 _ _ hr
theorem dX9_init_0 : decode cX9_init 0 = .ok (.aload_n 0, 1) := by decide +kernel
theorem dX9_init_1 : decode cX9_init 1 = .ok (.invokespecial 3, 3) := by decide +kernel
theorem dX9_init_4 : decode cX9_init 4 = .ok (.aload_n 0, 1) := by decide +kernel
theorem dX9_init_5 : decode cX9_init 5 = .ok (.iconst 3, 1) := by decide +kernel
theorem dX9_init_6 : decode cX9_init 6 = .ok (.newarray .int, 2) := by decide +kernel
theorem dX9_init_8 : decode cX9_init 8 = .ok (.putfield 9, 3) := by decide +kernel
theorem dX9_init_11 : decode cX9_init 11 = .ok (.aload_n 0, 1) := by decide +kernel
theorem dX9_init_12 : decode cX9_init 12 = .ok (.iconst 2, 1) := by decide +kernel
theorem dX9_init_13 : decode cX9_init 13 = .ok (.newarray .int, 2) := by decide +kernel
theorem dX9_init_15 : decode cX9_init 15 = .ok (.putfield 15, 3) := by decide +kernel
theorem dX9_init_18 : decode cX9_init 18 = .ok (.aload_n 0, 1) := by decide +kernel
theorem dX9_init_19 : decode cX9_init 19 = .ok (.bipush 12, 2) := by decide +kernel
theorem dX9_init_21 : decode cX9_init 21 = .ok (.anewarray 18, 3) := by decide +kernel
theorem dX9_init_24 : decode cX9_init 24 = .ok (.putfield 20, 3) := by decide +kernel
theorem dX9_init_27 : decode cX9_init 27 = .ok (.aload_n 0, 1) := by decide +kernel
theorem dX9_init_28 : decode cX9_init 28 = .ok (.iconst 3, 1) := by decide +kernel
theorem dX9_init_29 : decode cX9_init 29 = .ok (.newarray .int, 2) := by decide +kernel
theorem dX9_init_31 : decode cX9_init 31 = .ok (.putfield 24, 3) := by decide +kernel
theorem dX9_init_34 : decode cX9_init 34 = .ok (.aload_n 0, 1) := by decide +kernel
theorem dX9_init_35 : decode cX9_init 35 = .ok (.iload_n 1, 1) := by decide +kernel
theorem dX9_init_36 : decode cX9_init 36 = .ok (.putfield 27, 3) := by decide +kernel
theorem dX9_init_39 : decode cX9_init 39 = .ok (.aload_n 0, 1) := by decide +kernel
theorem dX9_init_40 : decode cX9_init 40 = .ok (.iload_n 2, 1) := by decide +kernel
theorem dX9_init_41 : decode cX9_init 41 = .ok (.putfield 31, 3) := by decide +kernel
theorem dX9_init_44 : decode cX9_init 44 = .ok (.aload_n 0, 1) := by decide +kernel
theorem dX9_init_45 : decode cX9_init 45 = .ok (.iload_n 3, 1) := by decide +kernel
theorem dX9_init_46 : decode cX9_init 46 = .ok (.putfield 34, 3) := by decide +kernel
theorem dX9_init_49 : decode cX9_init 49 = .ok (.return_, 1) := by decide +kernel
def fn_X9_init (h : mz_H) (a0 : (Option Nat)) (x1 : Int32) (x2 : Int32) (x3 : Int32) : mz_Res Unit :=
  mz_chk (a0).isSome <|
  mz_aN h 0 3 (.inl (fun _ => 0)) fun v1 h =>
  mz_op (mz_pF h a0 8 3 (va_rf v1)) fun h =>
  mz_aN h 0 2 (.inl (fun _ => 0)) fun v2 h =>
  mz_op (mz_pF h a0 8 5 (va_rf v2)) fun h =>
  mz_aN h 12 12 (.inr (.inr (.inr (.inr (fun _ => none))))) fun v3 h =>
  mz_op (mz_pF h a0 8 7 (va_rf v3)) fun h =>
  mz_aN h 0 3 (.inl (fun _ => 0)) fun v4 h =>
  mz_op (mz_pF h a0 8 9 (va_rf v4)) fun h =>
  mz_op (mz_pF h a0 8 0 (Value.int x1)) fun h =>
  mz_op (mz_pF h a0 8 1 (Value.int x2)) fun h =>
  mz_op (mz_pF h a0 8 2 (Value.int x3)) fun h =>
  mz_ret () h
set_option maxHeartbeats 4000000 in
set_option maxRecDepth 100000 in
theorem pf_X9_init_b0 (r : Unit) (Y : mz_Y p g RX9 cX9_init 4 none "<init>" (mz_AF h0) s m args meth c) (h : mz_H) (a0 : (Option Nat)) (x1 : Int32) (x2 : Int32) (x3 : Int32) (dc ds : Nat) (hr : fn_X9_init h a0 x1 x2 x3 = some (r, hf, dc, ds)) : mz_Go l g p e s m args below meth c 1 20 DC DS h0 none hf 4 0 [(0, false, va_rf a0), (1, false, .int x1), (2, false, .int x2), (3, false, .int x3)] [] h dc ds := by
  unfold fn_X9_init at hr
  intro H locs cells slots ls hH hS hl hc hs
  have X := Y.1
  refine mz_aload_n X dX9_init_0 rfl (mz_at hl 0 rfl) ?_
  refine mz_oinit X hl.1.1 oi_RX9_3 (Nat.le_of_ble_eq_true rfl) ⟨Nat.le_of_ble_eq_true rfl, Nat.le_of_ble_eq_true rfl⟩ dX9_init_1 hr (fun hr => ?_)
  refine mz_aload_n X dX9_init_4 rfl (mz_at hl 0 rfl) ?_
  refine lv_iconst (v := 3) X.1 X.2.1 dX9_init_5 (by decide) ?_
  refine mz_kA (t := 0) X hH hS (by decide) rfl rfl (by decide) (mz_tb 93 (by decide +kernel) rfl) (fun _ _ => rfl) dX9_init_6 hr hc hs (fun v1 h H cells slots dc ds hr hH hS hc hs => ?_)
  refine mz_putF X Y.2.2.2 hH hS fp_RX9_9 dX9_init_8 (mz_nra _ _).1 (mz_nra _ _).2 hr (fun h H locs hr hH hS => ?_)
  refine mz_aload_n X dX9_init_11 rfl (mz_at hl 0 rfl) ?_
  refine lv_iconst (v := 2) X.1 X.2.1 dX9_init_12 (by decide) ?_
  refine mz_kA (t := 0) X hH hS (by decide) rfl rfl (by decide) (mz_tb 93 (by decide +kernel) rfl) (fun _ _ => rfl) dX9_init_13 hr hc hs (fun v2 h H cells slots dc ds hr hH hS hc hs => ?_)
  refine mz_putF X Y.2.2.2 hH hS fp_RX9_15 dX9_init_15 (mz_nra _ _).1 (mz_nra _ _).2 hr (fun h H locs hr hH hS => ?_)
  refine mz_aload_n X dX9_init_18 rfl (mz_at hl 0 rfl) ?_
  refine lv_bipush (v := 12) X.1 X.2.1 dX9_init_19 (by decide) ?_
  refine mz_kR (t := 12) X hH hS (by decide) rfl (by decide) (mz_tb 252 (by decide +kernel) rfl) dX9_init_21 hr hc hs (fun v3 h H cells slots dc ds hr hH hS hc hs => ?_)
  refine mz_putF X Y.2.2.2 hH hS fp_RX9_20 dX9_init_24 (mz_nra _ _).1 (mz_nra _ _).2 hr (fun h H locs hr hH hS => ?_)
  refine mz_aload_n X dX9_init_27 rfl (mz_at hl 0 rfl) ?_
  refine lv_iconst (v := 3) X.1 X.2.1 dX9_init_28 (by decide) ?_
  refine mz_kA (t := 0) X hH hS (by decide) rfl rfl (by decide) (mz_tb 93 (by decide +kernel) rfl) (fun _ _ => rfl) dX9_init_29 hr hc hs (fun v4 h H cells slots dc ds hr hH hS hc hs => ?_)
  refine mz_putF X Y.2.2.2 hH hS fp_RX9_24 dX9_init_31 (mz_nra _ _).1 (mz_nra _ _).2 hr (fun h H locs hr hH hS => ?_)
  refine mz_aload_n X dX9_init_34 rfl (mz_at hl 0 rfl) ?_
  refine lv_iload_n X.1 X.2.1 dX9_init_35 rfl (mz_at hl 1 rfl) ?_
  refine mz_putF X Y.2.2.2 hH hS fp_RX9_27 dX9_init_36 rfl rfl hr (fun h H locs hr hH hS => ?_)
  refine mz_aload_n X dX9_init_39 rfl (mz_at hl 0 rfl) ?_
  refine lv_iload_n X.1 X.2.1 dX9_init_40 rfl (mz_at hl 2 rfl) ?_
  refine mz_putF X Y.2.2.2 hH hS fp_RX9_31 dX9_init_41 rfl rfl hr (fun h H locs hr hH hS => ?_)
  refine mz_aload_n X dX9_init_44 rfl (mz_at hl 0 rfl) ?_
  refine lv_iload_n X.1 X.2.1 dX9_init_45 rfl (mz_at hl 3 rfl) ?_
  refine mz_putF X Y.2.2.2 hH hS fp_RX9_34 dX9_init_46 rfl rfl hr (fun h H locs hr hH hS => ?_)
  exact mz_vret Y dX9_init_49 hH hS hc hs hr
set_option maxRecDepth 100000 in
theorem ct_X9_init (l : Launch) (g : mz_G) (h : mz_H) (a0 : (Option Nat)) (x1 : Int32) (x2 : Int32) (x3 : Int32) (r : Unit) (hf : mz_H) (k n : Nat) (hr : fn_X9_init h a0 x1 x2 x3 = some (r, hf, k, n)) : mz_C l g yX9_init cX9_init 4 none 1 20 [va_rf a0, .int x1, .int x2, .int x3] h none hf k n := by
  refine mz_met (as := [(false, va_rf a0), (false, .int x1), (false, .int x2), (false, .int x3)]) (plainFor_of_name (by decide)) (mz_c1 (mz_cat_rf _) (mz_c1 rfl (mz_c1 rfl (mz_c1 rfl mz_c0)))) (Nat.le_of_ble_eq_true rfl) ?_
  intro p e s m args below meth c Y
  exact pf_X9_init_b0 r Y h a0 x1 x2 x3 _ _ hr
end

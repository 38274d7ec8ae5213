/-! X12_nearest X12_below_ X12_fold X12_at X12_list X12_takes X12_stand -/
section
variable {p : Program} {l : Launch} {e : Env} {s : State} {m : MethodId} {args : Array Value} {below : List Frame} {meth : Method} {c : Code} {g : mz_G} {h0 hf : mz_H} {DC DS : Nat}
theorem dX12_nearest_0 : decode cX12_nearest 0 = .ok (.ldc2_w 289, 3) := by decide +kernel
theorem dX12_nearest_3 : decode cX12_nearest 3 = .ok (.dstore_n 2, 1) := by decide +kernel
theorem dX12_nearest_4 : decode cX12_nearest 4 = .ok (.dload_n 0, 1) := by decide +kernel
theorem dX12_nearest_5 : decode cX12_nearest 5 = .ok (.dload_n 2, 1) := by decide +kernel
theorem dX12_nearest_6 : decode cX12_nearest 6 = .ok (.dcmp .l, 1) := by decide +kernel
theorem dX12_nearest_7 : decode cX12_nearest 7 = .ok (.ifCond .ge 10, 3) := by decide +kernel
theorem dX12_nearest_10 : decode cX12_nearest 10 = .ok (.dload_n 0, 1) := by decide +kernel
theorem dX12_nearest_11 : decode cX12_nearest 11 = .ok (.dload_n 2, 1) := by decide +kernel
theorem dX12_nearest_12 : decode cX12_nearest 12 = .ok (.dneg, 1) := by decide +kernel
theorem dX12_nearest_13 : decode cX12_nearest 13 = .ok (.dcmp .g, 1) := by decide +kernel
theorem dX12_nearest_14 : decode cX12_nearest 14 = .ok (.ifCond .gt 5, 3) := by decide +kernel
theorem dX12_nearest_17 : decode cX12_nearest 17 = .ok (.dload_n 0, 1) := by decide +kernel
theorem dX12_nearest_18 : decode cX12_nearest 18 = .ok (.dreturn, 1) := by decide +kernel
theorem dX12_nearest_19 : decode cX12_nearest 19 = .ok (.dload_n 0, 1) := by decide +kernel
theorem dX12_nearest_20 : decode cX12_nearest 20 = .ok (.dconst 0, 1) := by decide +kernel
theorem dX12_nearest_21 : decode cX12_nearest 21 = .ok (.dcmp .g, 1) := by decide +kernel
theorem dX12_nearest_22 : decode cX12_nearest 22 = .ok (.ifCond .ge 11, 3) := by decide +kernel
theorem dX12_nearest_25 : decode cX12_nearest 25 = .ok (.dload_n 0, 1) := by decide +kernel
theorem dX12_nearest_26 : decode cX12_nearest 26 = .ok (.dload_n 2, 1) := by decide +kernel
theorem dX12_nearest_27 : decode cX12_nearest 27 = .ok (.dsub, 1) := by decide +kernel
theorem dX12_nearest_28 : decode cX12_nearest 28 = .ok (.dload_n 2, 1) := by decide +kernel
theorem dX12_nearest_29 : decode cX12_nearest 29 = .ok (.dadd, 1) := by decide +kernel
theorem dX12_nearest_30 : decode cX12_nearest 30 = .ok (.goto 8, 3) := by decide +kernel
theorem dX12_nearest_33 : decode cX12_nearest 33 = .ok (.dload_n 0, 1) := by decide +kernel
theorem dX12_nearest_34 : decode cX12_nearest 34 = .ok (.dload_n 2, 1) := by decide +kernel
theorem dX12_nearest_35 : decode cX12_nearest 35 = .ok (.dadd, 1) := by decide +kernel
theorem dX12_nearest_36 : decode cX12_nearest 36 = .ok (.dload_n 2, 1) := by decide +kernel
theorem dX12_nearest_37 : decode cX12_nearest 37 = .ok (.dsub, 1) := by decide +kernel
theorem dX12_nearest_38 : decode cX12_nearest 38 = .ok (.dreturn, 1) := by decide +kernel
def fn_X12_nearest_b17 (h : mz_H) (d0 : UInt64) : mz_Res UInt64 :=
  mz_ret d0 h
set_option maxHeartbeats 4000000 in
set_option maxRecDepth 100000 in
theorem pf_X12_nearest_b17 (r : UInt64) (Y : mz_Y p g RX12 cX12_nearest 4 (some .double) "nearest" (mz_AF h0) s m args meth c) (h : mz_H) (d0 : UInt64) (dc ds : Nat) (hr : fn_X12_nearest_b17 h d0 = some (r, hf, dc, ds)) : mz_Go l g p e s m args below meth c 0 0 DC DS h0 (some (Value.double r)) hf 4 17 [(0, true, .double d0)] [] h dc ds := by
  unfold fn_X12_nearest_b17 at hr
  intro H locs cells slots ls hH hS hl hc hs
  have X := Y.1
  refine lv_dload_n X.1 X.2.1 dX12_nearest_17 rfl (mz_at hl 0 rfl) ?_
  exact mz_dret Y dX12_nearest_18 hH hS hc hs hr
def fn_X12_nearest (h : mz_H) (d0 : UInt64) : mz_Res UInt64 :=
  if 0 ≤ (Op.cmpValue (FP.dcmp d0 4841369599423283200) .l) then
    fn_X12_nearest_b17 h d0
  else
    if 0 < (Op.cmpValue (FP.dcmp d0 (FP.dneg 4841369599423283200)) .g) then
      if 0 ≤ (Op.cmpValue (FP.dcmp d0 FP.dconst0) .g) then
        mz_chk (mz_n64 (FP.dadd d0 4841369599423283200)) <|
        mz_chk (mz_n64 (FP.dsub (FP.dadd d0 4841369599423283200) 4841369599423283200)) <|
        mz_ret (FP.dsub (FP.dadd d0 4841369599423283200) 4841369599423283200) h
      else
        mz_chk (mz_n64 (FP.dsub d0 4841369599423283200)) <|
        mz_chk (mz_n64 (FP.dadd (FP.dsub d0 4841369599423283200) 4841369599423283200)) <|
        mz_ret (FP.dadd (FP.dsub d0 4841369599423283200) 4841369599423283200) h
    else
      fn_X12_nearest_b17 h d0
set_option maxHeartbeats 4000000 in
set_option maxRecDepth 100000 in
theorem pf_X12_nearest_b0 (r : UInt64) (Y : mz_Y p g RX12 cX12_nearest 4 (some .double) "nearest" (mz_AF h0) s m args meth c) (h : mz_H) (d0 : UInt64) (dc ds : Nat) (hr : fn_X12_nearest h d0 = some (r, hf, dc, ds)) : mz_Go l g p e s m args below meth c 0 0 DC DS h0 (some (Value.double r)) hf 4 0 [(0, true, .double d0)] [] h dc ds := by
  unfold fn_X12_nearest at hr
  intro H locs cells slots ls hH hS hl hc hs
  have X := Y.1
  refine mz_ldc2d (v := 4841369599423283200) X (mz_tb 1386 (by decide +kernel) rfl) dX12_nearest_0 ?_
  refine mz_dstore_n X [(2, true, .double 4841369599423283200), (0, true, .double d0)] dX12_nearest_3 rfl hl (by decide) rfl (fun ls hl => ?_)
  refine lv_dload_n X.1 X.2.1 dX12_nearest_4 rfl (mz_at hl 1 rfl) ?_
  refine lv_dload_n X.1 X.2.1 dX12_nearest_5 rfl (mz_at hl 0 rfl) ?_
  refine lv_dcmp X.1 X.2.1 dX12_nearest_6 ?_
  refine mz_if_ge X 17 dX12_nearest_7 (by decide) hr (fun hr => ?_) (fun hr => ?_)
  · exact pf_X12_nearest_b17 r Y h d0 _ _ hr H locs cells slots ls hH hS (mz_sub hl [1] rfl) hc hs
  · refine lv_dload_n X.1 X.2.1 dX12_nearest_10 rfl (mz_at hl 1 rfl) ?_
    refine lv_dload_n X.1 X.2.1 dX12_nearest_11 rfl (mz_at hl 0 rfl) ?_
    refine lv_dneg X.1 X.2.1 dX12_nearest_12 ?_
    refine lv_dcmp X.1 X.2.1 dX12_nearest_13 ?_
    refine mz_if_gt X 19 dX12_nearest_14 (by decide) hr (fun hr => ?_) (fun hr => ?_)
    · refine lv_dload_n X.1 X.2.1 dX12_nearest_19 rfl (mz_at hl 1 rfl) ?_
      refine lv_dconst0 X.1 X.2.1 dX12_nearest_20 ?_
      refine lv_dcmp X.1 X.2.1 dX12_nearest_21 ?_
      refine mz_if_ge X 33 dX12_nearest_22 (by decide) hr (fun hr => ?_) (fun hr => ?_)
      · refine lv_dload_n X.1 X.2.1 dX12_nearest_33 rfl (mz_at hl 1 rfl) ?_
        refine lv_dload_n X.1 X.2.1 dX12_nearest_34 rfl (mz_at hl 0 rfl) ?_
        refine mz_dadd X dX12_nearest_35 hr (fun hr => ?_)
        refine lv_dload_n X.1 X.2.1 dX12_nearest_36 rfl (mz_at hl 0 rfl) ?_
        refine mz_dsub X dX12_nearest_37 hr (fun hr => ?_)
        exact mz_dret Y dX12_nearest_38 hH hS hc hs hr
      · refine lv_dload_n X.1 X.2.1 dX12_nearest_25 rfl (mz_at hl 1 rfl) ?_
        refine lv_dload_n X.1 X.2.1 dX12_nearest_26 rfl (mz_at hl 0 rfl) ?_
        refine mz_dsub X dX12_nearest_27 hr (fun hr => ?_)
        refine lv_dload_n X.1 X.2.1 dX12_nearest_28 rfl (mz_at hl 0 rfl) ?_
        refine mz_dadd X dX12_nearest_29 hr (fun hr => ?_)
        refine lv_goto (tgt := 38) X.1 X.2.1 dX12_nearest_30 (by decide) ?_
        exact mz_dret Y dX12_nearest_38 hH hS hc hs hr
    · exact pf_X12_nearest_b17 r Y h d0 _ _ hr H locs cells slots ls hH hS (mz_sub hl [1] rfl) hc hs
set_option maxRecDepth 100000 in
theorem ct_X12_nearest (l : Launch) (g : mz_G) (h : mz_H) (d0 : UInt64) (r : UInt64) (hf : mz_H) (k n : Nat) (hr : fn_X12_nearest h d0 = some (r, hf, k, n)) : mz_C l g yX12_nearest cX12_nearest 4 (some .double) 0 0 [.double d0] h (some (Value.double r)) hf k n := by
  refine mz_met (as := [(true, .double d0)]) (plainFor_of_name (by decide)) (mz_c1 rfl mz_c0) (Nat.le_of_ble_eq_true rfl) ?_
  intro p e s m args below meth c Y
  exact pf_X12_nearest_b0 r Y h d0 _ _ hr
theorem dX12_below__0 : decode cX12_below_ 0 = .ok (.ldc2_w 289, 3) := by decide +kernel
theorem dX12_below__3 : decode cX12_below_ 3 = .ok (.dstore_n 2, 1) := by decide +kernel
theorem dX12_below__4 : decode cX12_below_ 4 = .ok (.dload_n 0, 1) := by decide +kernel
theorem dX12_below__5 : decode cX12_below_ 5 = .ok (.dload_n 2, 1) := by decide +kernel
theorem dX12_below__6 : decode cX12_below_ 6 = .ok (.dcmp .l, 1) := by decide +kernel
theorem dX12_below__7 : decode cX12_below_ 7 = .ok (.ifCond .ge 10, 3) := by decide +kernel
theorem dX12_below__10 : decode cX12_below_ 10 = .ok (.dload_n 0, 1) := by decide +kernel
theorem dX12_below__11 : decode cX12_below_ 11 = .ok (.dload_n 2, 1) := by decide +kernel
theorem dX12_below__12 : decode cX12_below_ 12 = .ok (.dneg, 1) := by decide +kernel
theorem dX12_below__13 : decode cX12_below_ 13 = .ok (.dcmp .g, 1) := by decide +kernel
theorem dX12_below__14 : decode cX12_below_ 14 = .ok (.ifCond .gt 5, 3) := by decide +kernel
theorem dX12_below__17 : decode cX12_below_ 17 = .ok (.dload_n 0, 1) := by decide +kernel
theorem dX12_below__18 : decode cX12_below_ 18 = .ok (.dreturn, 1) := by decide +kernel
theorem dX12_below__19 : decode cX12_below_ 19 = .ok (.dload_n 0, 1) := by decide +kernel
theorem dX12_below__20 : decode cX12_below_ 20 = .ok (.d2l, 1) := by decide +kernel
theorem dX12_below__21 : decode cX12_below_ 21 = .ok (.l2d, 1) := by decide +kernel
theorem dX12_below__22 : decode cX12_below_ 22 = .ok (.dstore 4, 2) := by decide +kernel
theorem dX12_below__24 : decode cX12_below_ 24 = .ok (.dload 4, 2) := by decide +kernel
theorem dX12_below__26 : decode cX12_below_ 26 = .ok (.dload_n 0, 1) := by decide +kernel
theorem dX12_below__27 : decode cX12_below_ 27 = .ok (.dcmp .l, 1) := by decide +kernel
theorem dX12_below__28 : decode cX12_below_ 28 = .ok (.ifCond .le 10, 3) := by decide +kernel
theorem dX12_below__31 : decode cX12_below_ 31 = .ok (.dload 4, 2) := by decide +kernel
theorem dX12_below__33 : decode cX12_below_ 33 = .ok (.dconst 1, 1) := by decide +kernel
theorem dX12_below__34 : decode cX12_below_ 34 = .ok (.dsub, 1) := by decide +kernel
theorem dX12_below__35 : decode cX12_below_ 35 = .ok (.goto 5, 3) := by decide +kernel
theorem dX12_below__38 : decode cX12_below_ 38 = .ok (.dload 4, 2) := by decide +kernel
theorem dX12_below__40 : decode cX12_below_ 40 = .ok (.dreturn, 1) := by decide +kernel
def fn_X12_below__b17 (h : mz_H) (d0 : UInt64) : mz_Res UInt64 :=
  mz_ret d0 h
set_option maxHeartbeats 4000000 in
set_option maxRecDepth 100000 in
theorem pf_X12_below__b17 (r : UInt64) (Y : mz_Y p g RX12 cX12_below_ 6 (some .double) "below" (mz_AF h0) s m args meth c) (h : mz_H) (d0 : UInt64) (dc ds : Nat) (hr : fn_X12_below__b17 h d0 = some (r, hf, dc, ds)) : mz_Go l g p e s m args below meth c 0 0 DC DS h0 (some (Value.double r)) hf 6 17 [(0, true, .double d0)] [] h dc ds := by
  unfold fn_X12_below__b17 at hr
  intro H locs cells slots ls hH hS hl hc hs
  have X := Y.1
  refine lv_dload_n X.1 X.2.1 dX12_below__17 rfl (mz_at hl 0 rfl) ?_
  exact mz_dret Y dX12_below__18 hH hS hc hs hr
def fn_X12_below_ (h : mz_H) (d0 : UInt64) : mz_Res UInt64 :=
  if 0 ≤ (Op.cmpValue (FP.dcmp d0 4841369599423283200) .l) then
    fn_X12_below__b17 h d0
  else
    if 0 < (Op.cmpValue (FP.dcmp d0 (FP.dneg 4841369599423283200)) .g) then
      mz_op (some (FP.l2d (FP.d2l d0))) fun v1 =>
      if (Op.cmpValue (FP.dcmp v1 d0) .l) ≤ 0 then
        mz_ret v1 h
      else
        mz_chk (mz_n64 (FP.dsub v1 FP.dconst1)) <|
        mz_ret (FP.dsub v1 FP.dconst1) h
    else
      fn_X12_below__b17 h d0
set_option maxHeartbeats 4000000 in
set_option maxRecDepth 100000 in
theorem pf_X12_below__b0 (r : UInt64) (Y : mz_Y p g RX12 cX12_below_ 6 (some .double) "below" (mz_AF h0) s m args meth c) (h : mz_H) (d0 : UInt64) (dc ds : Nat) (hr : fn_X12_below_ h d0 = some (r, hf, dc, ds)) : mz_Go l g p e s m args below meth c 0 0 DC DS h0 (some (Value.double r)) hf 6 0 [(0, true, .double d0)] [] h dc ds := by
  unfold fn_X12_below_ at hr
  intro H locs cells slots ls hH hS hl hc hs
  have X := Y.1
  refine mz_ldc2d (v := 4841369599423283200) X (mz_tb 1386 (by decide +kernel) rfl) dX12_below__0 ?_
  refine mz_dstore_n X [(2, true, .double 4841369599423283200), (0, true, .double d0)] dX12_below__3 rfl hl (by decide) rfl (fun ls hl => ?_)
  refine lv_dload_n X.1 X.2.1 dX12_below__4 rfl (mz_at hl 1 rfl) ?_
  refine lv_dload_n X.1 X.2.1 dX12_below__5 rfl (mz_at hl 0 rfl) ?_
  refine lv_dcmp X.1 X.2.1 dX12_below__6 ?_
  refine mz_if_ge X 17 dX12_below__7 (by decide) hr (fun hr => ?_) (fun hr => ?_)
  · exact pf_X12_below__b17 r Y h d0 _ _ hr H locs cells slots ls hH hS (mz_sub hl [1] rfl) hc hs
  · refine lv_dload_n X.1 X.2.1 dX12_below__10 rfl (mz_at hl 1 rfl) ?_
    refine lv_dload_n X.1 X.2.1 dX12_below__11 rfl (mz_at hl 0 rfl) ?_
    refine lv_dneg X.1 X.2.1 dX12_below__12 ?_
    refine lv_dcmp X.1 X.2.1 dX12_below__13 ?_
    refine mz_if_gt X 19 dX12_below__14 (by decide) hr (fun hr => ?_) (fun hr => ?_)
    · refine lv_dload_n X.1 X.2.1 dX12_below__19 rfl (mz_at hl 1 rfl) ?_
      refine lv_d2l X.1 X.2.1 dX12_below__20 ?_
      refine lv_l2d X.1 X.2.1 dX12_below__21 ?_
      refine mz_topd hr (fun v1 hv1 hr => ?_)
      refine mz_dstore X [(4, true, .double v1), (2, true, .double 4841369599423283200), (0, true, .double d0)] dX12_below__22 hl (by decide) rfl (fun ls hl => ?_)
      refine lv_dload X.1 X.2.1 dX12_below__24 (mz_at hl 0 rfl) ?_
      refine lv_dload_n X.1 X.2.1 dX12_below__26 rfl (mz_at hl 2 rfl) ?_
      refine lv_dcmp X.1 X.2.1 dX12_below__27 ?_
      refine mz_if_le X 38 dX12_below__28 (by decide) hr (fun hr => ?_) (fun hr => ?_)
      · refine lv_dload X.1 X.2.1 dX12_below__38 (mz_at hl 0 rfl) ?_
        exact mz_dret Y dX12_below__40 hH hS hc hs hr
      · refine lv_dload X.1 X.2.1 dX12_below__31 (mz_at hl 0 rfl) ?_
        refine lv_dconst1 X.1 X.2.1 dX12_below__33 ?_
        refine mz_dsub X dX12_below__34 hr (fun hr => ?_)
        refine lv_goto (tgt := 40) X.1 X.2.1 dX12_below__35 (by decide) ?_
        exact mz_dret Y dX12_below__40 hH hS hc hs hr
    · exact pf_X12_below__b17 r Y h d0 _ _ hr H locs cells slots ls hH hS (mz_sub hl [1] rfl) hc hs
set_option maxRecDepth 100000 in
theorem ct_X12_below_ (l : Launch) (g : mz_G) (h : mz_H) (d0 : UInt64) (r : UInt64) (hf : mz_H) (k n : Nat) (hr : fn_X12_below_ h d0 = some (r, hf, k, n)) : mz_C l g yX12_below_ cX12_below_ 6 (some .double) 0 0 [.double d0] h (some (Value.double r)) hf k n := by
  refine mz_met (as := [(true, .double d0)]) (plainFor_of_name (by decide)) (mz_c1 rfl mz_c0) (Nat.le_of_ble_eq_true rfl) ?_
  intro p e s m args below meth c Y
  exact pf_X12_below__b0 r Y h d0 _ _ hr
theorem dX12_fold_0 : decode cX12_fold 0 = .ok (.iload_n 1, 1) := by decide +kernel
theorem dX12_fold_1 : decode cX12_fold 1 = .ok (.iconst 0, 1) := by decide +kernel
theorem dX12_fold_2 : decode cX12_fold 2 = .ok (.iconst 4, 1) := by decide +kernel
theorem dX12_fold_3 : decode cX12_fold 3 = .ok (.invokestatic 142, 3) := by decide +kernel
theorem dX12_fold_6 : decode cX12_fold 6 = .ok (.ifCond .ne 7, 3) := by decide +kernel
theorem dX12_fold_9 : decode cX12_fold 9 = .ok (.ldc2_w 259, 3) := by decide +kernel
theorem dX12_fold_12 : decode cX12_fold 12 = .ok (.lreturn, 1) := by decide +kernel
theorem dX12_fold_13 : decode cX12_fold 13 = .ok (.iconst 0, 1) := by decide +kernel
theorem dX12_fold_14 : decode cX12_fold 14 = .ok (.istore_n 2, 1) := by decide +kernel
theorem dX12_fold_15 : decode cX12_fold 15 = .ok (.dconst 0, 1) := by decide +kernel
theorem dX12_fold_16 : decode cX12_fold 16 = .ok (.dstore_n 3, 1) := by decide +kernel
theorem dX12_fold_17 : decode cX12_fold 17 = .ok (.dconst 0, 1) := by decide +kernel
theorem dX12_fold_18 : decode cX12_fold 18 = .ok (.dstore 5, 2) := by decide +kernel
theorem dX12_fold_20 : decode cX12_fold 20 = .ok (.dconst 0, 1) := by decide +kernel
theorem dX12_fold_21 : decode cX12_fold 21 = .ok (.dstore 7, 2) := by decide +kernel
theorem dX12_fold_23 : decode cX12_fold 23 = .ok (.dconst 0, 1) := by decide +kernel
theorem dX12_fold_24 : decode cX12_fold 24 = .ok (.dstore 9, 2) := by decide +kernel
theorem dX12_fold_26 : decode cX12_fold 26 = .ok (.iconst 0, 1) := by decide +kernel
theorem dX12_fold_27 : decode cX12_fold 27 = .ok (.istore 11, 2) := by decide +kernel
theorem dX12_fold_29 : decode cX12_fold 29 = .ok (.iload 11, 2) := by decide +kernel
theorem dX12_fold_31 : decode cX12_fold 31 = .ok (.aload_n 0, 1) := by decide +kernel
theorem dX12_fold_32 : decode cX12_fold 32 = .ok (.getfield 286, 3) := by decide +kernel
theorem dX12_fold_35 : decode cX12_fold 35 = .ok (.if_icmp .ge 176, 3) := by decide +kernel
theorem dX12_fold_38 : decode cX12_fold 38 = .ok (.aload_n 0, 1) := by decide +kernel
theorem dX12_fold_39 : decode cX12_fold 39 = .ok (.getfield 283, 3) := by decide +kernel
theorem dX12_fold_42 : decode cX12_fold 42 = .ok (.iconst 5, 1) := by decide +kernel
theorem dX12_fold_43 : decode cX12_fold 43 = .ok (.if_icmp .eq 12, 3) := by decide +kernel
theorem dX12_fold_46 : decode cX12_fold 46 = .ok (.aload_n 0, 1) := by decide +kernel
theorem dX12_fold_47 : decode cX12_fold 47 = .ok (.getfield 283, 3) := by decide +kernel
theorem dX12_fold_50 : decode cX12_fold 50 = .ok (.bipush 6, 2) := by decide +kernel
theorem dX12_fold_52 : decode cX12_fold 52 = .ok (.if_icmp .ne 7, 3) := by decide +kernel
theorem dX12_fold_55 : decode cX12_fold 55 = .ok (.iconst 1, 1) := by decide +kernel
theorem dX12_fold_56 : decode cX12_fold 56 = .ok (.goto 4, 3) := by decide +kernel
theorem dX12_fold_59 : decode cX12_fold 59 = .ok (.iconst 0, 1) := by decide +kernel
theorem dX12_fold_60 : decode cX12_fold 60 = .ok (.istore 12, 2) := by decide +kernel
theorem dX12_fold_62 : decode cX12_fold 62 = .ok (.iload 12, 2) := by decide +kernel
theorem dX12_fold_64 : decode cX12_fold 64 = .ok (.ifCond .eq 19, 3) := by decide +kernel
theorem dX12_fold_67 : decode cX12_fold 67 = .ok (.aload_n 0, 1) := by decide +kernel
theorem dX12_fold_68 : decode cX12_fold 68 = .ok (.getfield 110, 3) := by decide +kernel
theorem dX12_fold_71 : decode cX12_fold 71 = .ok (.iload 11, 2) := by decide +kernel
theorem dX12_fold_73 : decode cX12_fold 73 = .ok (.laload, 1) := by decide +kernel
theorem dX12_fold_74 : decode cX12_fold 74 = .ok (.invokestatic 291, 3) := by decide +kernel
theorem dX12_fold_77 : decode cX12_fold 77 = .ok (.ifCond .ne 6, 3) := by decide +kernel
theorem dX12_fold_80 : decode cX12_fold 80 = .ok (.goto 125, 3) := by decide +kernel
theorem dX12_fold_83 : decode cX12_fold 83 = .ok (.iload 12, 2) := by decide +kernel
theorem dX12_fold_85 : decode cX12_fold 85 = .ok (.ifCond .eq 16, 3) := by decide +kernel
theorem dX12_fold_88 : decode cX12_fold 88 = .ok (.aload_n 0, 1) := by decide +kernel
theorem dX12_fold_89 : decode cX12_fold 89 = .ok (.getfield 110, 3) := by decide +kernel
theorem dX12_fold_92 : decode cX12_fold 92 = .ok (.iload 11, 2) := by decide +kernel
theorem dX12_fold_94 : decode cX12_fold 94 = .ok (.laload, 1) := by decide +kernel
theorem dX12_fold_95 : decode cX12_fold 95 = .ok (.invokestatic 251, 3) := by decide +kernel
theorem dX12_fold_98 : decode cX12_fold 98 = .ok (.goto 11, 3) := by decide +kernel
theorem dX12_fold_101 : decode cX12_fold 101 = .ok (.aload_n 0, 1) := by decide +kernel
theorem dX12_fold_102 : decode cX12_fold 102 = .ok (.getfield 110, 3) := by decide +kernel
theorem dX12_fold_105 : decode cX12_fold 105 = .ok (.iload 11, 2) := by decide +kernel
theorem dX12_fold_107 : decode cX12_fold 107 = .ok (.laload, 1) := by decide +kernel
theorem dX12_fold_108 : decode cX12_fold 108 = .ok (.l2d, 1) := by decide +kernel
theorem dX12_fold_109 : decode cX12_fold 109 = .ok (.dstore 13, 2) := by decide +kernel
theorem dX12_fold_111 : decode cX12_fold 111 = .ok (.iload_n 2, 1) := by decide +kernel
theorem dX12_fold_112 : decode cX12_fold 112 = .ok (.ifCond .eq 27, 3) := by decide +kernel
theorem dX12_fold_115 : decode cX12_fold 115 = .ok (.dload 13, 2) := by decide +kernel
theorem dX12_fold_117 : decode cX12_fold 117 = .ok (.dload_n 3, 1) := by decide +kernel
theorem dX12_fold_118 : decode cX12_fold 118 = .ok (.dcmp .g, 1) := by decide +kernel
theorem dX12_fold_119 : decode cX12_fold 119 = .ok (.ifCond .lt 20, 3) := by decide +kernel
theorem dX12_fold_122 : decode cX12_fold 122 = .ok (.dload 13, 2) := by decide +kernel
theorem dX12_fold_124 : decode cX12_fold 124 = .ok (.dload_n 3, 1) := by decide +kernel
theorem dX12_fold_125 : decode cX12_fold 125 = .ok (.dcmp .l, 1) := by decide +kernel
theorem dX12_fold_126 : decode cX12_fold 126 = .ok (.ifCond .ne 18, 3) := by decide +kernel
theorem dX12_fold_129 : decode cX12_fold 129 = .ok (.dload 13, 2) := by decide +kernel
theorem dX12_fold_131 : decode cX12_fold 131 = .ok (.invokestatic 241, 3) := by decide +kernel
theorem dX12_fold_134 : decode cX12_fold 134 = .ok (.lconst 0, 1) := by decide +kernel
theorem dX12_fold_135 : decode cX12_fold 135 = .ok (.lcmp, 1) := by decide +kernel
theorem dX12_fold_136 : decode cX12_fold 136 = .ok (.ifCond .ge 8, 3) := by decide +kernel
theorem dX12_fold_139 : decode cX12_fold 139 = .ok (.dload 13, 2) := by decide +kernel
theorem dX12_fold_141 : decode cX12_fold 141 = .ok (.goto 4, 3) := by decide +kernel
theorem dX12_fold_144 : decode cX12_fold 144 = .ok (.dload_n 3, 1) := by decide +kernel
theorem dX12_fold_145 : decode cX12_fold 145 = .ok (.dstore_n 3, 1) := by decide +kernel
theorem dX12_fold_146 : decode cX12_fold 146 = .ok (.iload_n 2, 1) := by decide +kernel
theorem dX12_fold_147 : decode cX12_fold 147 = .ok (.ifCond .eq 29, 3) := by decide +kernel
theorem dX12_fold_150 : decode cX12_fold 150 = .ok (.dload 13, 2) := by decide +kernel
theorem dX12_fold_152 : decode cX12_fold 152 = .ok (.dload 5, 2) := by decide +kernel
theorem dX12_fold_154 : decode cX12_fold 154 = .ok (.dcmp .l, 1) := by decide +kernel
theorem dX12_fold_155 : decode cX12_fold 155 = .ok (.ifCond .gt 21, 3) := by decide +kernel
theorem dX12_fold_158 : decode cX12_fold 158 = .ok (.dload 13, 2) := by decide +kernel
theorem dX12_fold_160 : decode cX12_fold 160 = .ok (.dload 5, 2) := by decide +kernel
theorem dX12_fold_162 : decode cX12_fold 162 = .ok (.dcmp .l, 1) := by decide +kernel
theorem dX12_fold_163 : decode cX12_fold 163 = .ok (.ifCond .ne 18, 3) := by decide +kernel
theorem dX12_fold_166 : decode cX12_fold 166 = .ok (.dload 5, 2) := by decide +kernel
theorem dX12_fold_168 : decode cX12_fold 168 = .ok (.invokestatic 241, 3) := by decide +kernel
theorem dX12_fold_171 : decode cX12_fold 171 = .ok (.lconst 0, 1) := by decide +kernel
theorem dX12_fold_172 : decode cX12_fold 172 = .ok (.lcmp, 1) := by decide +kernel
theorem dX12_fold_173 : decode cX12_fold 173 = .ok (.ifCond .ge 8, 3) := by decide +kernel
theorem dX12_fold_176 : decode cX12_fold 176 = .ok (.dload 13, 2) := by decide +kernel
theorem dX12_fold_178 : decode cX12_fold 178 = .ok (.goto 5, 3) := by decide +kernel
theorem dX12_fold_181 : decode cX12_fold 181 = .ok (.dload 5, 2) := by decide +kernel
theorem dX12_fold_183 : decode cX12_fold 183 = .ok (.dstore 5, 2) := by decide +kernel
theorem dX12_fold_185 : decode cX12_fold 185 = .ok (.dload 7, 2) := by decide +kernel
theorem dX12_fold_187 : decode cX12_fold 187 = .ok (.dload 13, 2) := by decide +kernel
theorem dX12_fold_189 : decode cX12_fold 189 = .ok (.dadd, 1) := by decide +kernel
theorem dX12_fold_190 : decode cX12_fold 190 = .ok (.dstore 7, 2) := by decide +kernel
theorem dX12_fold_192 : decode cX12_fold 192 = .ok (.dload 9, 2) := by decide +kernel
theorem dX12_fold_194 : decode cX12_fold 194 = .ok (.dload 13, 2) := by decide +kernel
theorem dX12_fold_196 : decode cX12_fold 196 = .ok (.invokestatic 294, 3) := by decide +kernel
theorem dX12_fold_199 : decode cX12_fold 199 = .ok (.dadd, 1) := by decide +kernel
theorem dX12_fold_200 : decode cX12_fold 200 = .ok (.dstore 9, 2) := by decide +kernel
theorem dX12_fold_202 : decode cX12_fold 202 = .ok (.iinc 2 1, 3) := by decide +kernel
theorem dX12_fold_205 : decode cX12_fold 205 = .ok (.iinc 11 1, 3) := by decide +kernel
theorem dX12_fold_208 : decode cX12_fold 208 = .ok (.goto (-179), 3) := by decide +kernel
theorem dX12_fold_211 : decode cX12_fold 211 = .ok (.iload_n 1, 1) := by decide +kernel
theorem dX12_fold_212 : decode cX12_fold 212 = .ok (.ifCond .le 16, 3) := by decide +kernel
theorem dX12_fold_215 : decode cX12_fold 215 = .ok (.iload_n 1, 1) := by decide +kernel
theorem dX12_fold_216 : decode cX12_fold 216 = .ok (.iconst 3, 1) := by decide +kernel
theorem dX12_fold_217 : decode cX12_fold 217 = .ok (.if_icmp .ge 11, 3) := by decide +kernel
theorem dX12_fold_220 : decode cX12_fold 220 = .ok (.iload_n 2, 1) := by decide +kernel
theorem dX12_fold_221 : decode cX12_fold 221 = .ok (.ifCond .ne 7, 3) := by decide +kernel
theorem dX12_fold_224 : decode cX12_fold 224 = .ok (.ldc2_w 259, 3) := by decide +kernel
theorem dX12_fold_227 : decode cX12_fold 227 = .ok (.lreturn, 1) := by decide +kernel
theorem dX12_fold_228 : decode cX12_fold 228 = .ok (.iload_n 1, 1) := by decide +kernel
theorem dX12_fold_229 : decode cX12_fold 229 = .ok (.ifCond .ne 8, 3) := by decide +kernel
theorem dX12_fold_232 : decode cX12_fold 232 = .ok (.iload_n 2, 1) := by decide +kernel
theorem dX12_fold_233 : decode cX12_fold 233 = .ok (.i2d, 1) := by decide +kernel
theorem dX12_fold_234 : decode cX12_fold 234 = .ok (.goto 34, 3) := by decide +kernel
theorem dX12_fold_237 : decode cX12_fold 237 = .ok (.iload_n 1, 1) := by decide +kernel
theorem dX12_fold_238 : decode cX12_fold 238 = .ok (.iconst 1, 1) := by decide +kernel
theorem dX12_fold_239 : decode cX12_fold 239 = .ok (.if_icmp .ne 7, 3) := by decide +kernel
theorem dX12_fold_242 : decode cX12_fold 242 = .ok (.dload_n 3, 1) := by decide +kernel
theorem dX12_fold_243 : decode cX12_fold 243 = .ok (.goto 25, 3) := by decide +kernel
theorem dX12_fold_246 : decode cX12_fold 246 = .ok (.iload_n 1, 1) := by decide +kernel
theorem dX12_fold_247 : decode cX12_fold 247 = .ok (.iconst 2, 1) := by decide +kernel
theorem dX12_fold_248 : decode cX12_fold 248 = .ok (.if_icmp .ne 8, 3) := by decide +kernel
theorem dX12_fold_251 : decode cX12_fold 251 = .ok (.dload 5, 2) := by decide +kernel
theorem dX12_fold_253 : decode cX12_fold 253 = .ok (.goto 15, 3) := by decide +kernel
theorem dX12_fold_256 : decode cX12_fold 256 = .ok (.iload_n 1, 1) := by decide +kernel
theorem dX12_fold_257 : decode cX12_fold 257 = .ok (.iconst 3, 1) := by decide +kernel
theorem dX12_fold_258 : decode cX12_fold 258 = .ok (.if_icmp .ne 8, 3) := by decide +kernel
theorem dX12_fold_261 : decode cX12_fold 261 = .ok (.dload 7, 2) := by decide +kernel
theorem dX12_fold_263 : decode cX12_fold 263 = .ok (.goto 5, 3) := by decide +kernel
theorem dX12_fold_266 : decode cX12_fold 266 = .ok (.dload 9, 2) := by decide +kernel
theorem dX12_fold_268 : decode cX12_fold 268 = .ok (.invokestatic 241, 3) := by decide +kernel
theorem dX12_fold_271 : decode cX12_fold 271 = .ok (.lreturn, 1) := by decide +kernel
def fn_X12_fold_b268 (h : mz_H) (s0 : UInt64) : mz_Res Int64 :=
  mz_call (fn_J_d2l h s0) fun v1 h =>
  mz_ret v1 h
set_option maxHeartbeats 4000000 in
set_option maxRecDepth 100000 in
theorem pf_X12_fold_b268 (r : Int64) (Y : mz_Y p g RX12 cX12_fold 15 (some .long) "fold" (mz_AF h0) s m args meth c) (h : mz_H) (s0 : UInt64) (dc ds : Nat) (hr : fn_X12_fold_b268 h s0 = some (r, hf, dc, ds)) : mz_Go l g p e s m args below meth c 2 44 DC DS h0 (some (Value.long r)) hf 15 268 [] [.double s0] h dc ds := by
  unfold fn_X12_fold_b268 at hr
  intro H locs cells slots ls hH hS hl hc hs
  have X := Y.1
  refine mz_kS Value.long X hH hS hl.1.1 [.double s0] [] hr (ct_J_d2l l g h s0) mb_RX12_241 im_J_d2l rfl (Nat.le_of_ble_eq_true rfl) ⟨Nat.le_of_ble_eq_true rfl, Nat.le_of_ble_eq_true rfl⟩ hc hs dX12_fold_268 rfl (fun v1 h H locs cells slots dc ds hr hH hS hc hs => ?_)
  exact mz_lret Y dX12_fold_271 hH hS hc hs hr
def fn_X12_fold_b228 (h : mz_H) (x1 : Int32) (x2 : Int32) (d3 : UInt64) (d5 : UInt64) (d7 : UInt64) (d9 : UInt64) : mz_Res Int64 :=
  if x1 = 0 then
    fn_X12_fold_b268 h (FP.i2d x2)
  else
    if x1 = 1 then
      fn_X12_fold_b268 h d3
    else
      if x1 = 2 then
        fn_X12_fold_b268 h d5
      else
        if x1 = 3 then
          fn_X12_fold_b268 h d7
        else
          fn_X12_fold_b268 h d9
set_option maxHeartbeats 4000000 in
set_option maxRecDepth 100000 in
theorem pf_X12_fold_b228 (r : Int64) (Y : mz_Y p g RX12 cX12_fold 15 (some .long) "fold" (mz_AF h0) s m args meth c) (h : mz_H) (x1 : Int32) (x2 : Int32) (d3 : UInt64) (d5 : UInt64) (d7 : UInt64) (d9 : UInt64) (dc ds : Nat) (hr : fn_X12_fold_b228 h x1 x2 d3 d5 d7 d9 = some (r, hf, dc, ds)) : mz_Go l g p e s m args below meth c 2 44 DC DS h0 (some (Value.long r)) hf 15 228 [(1, false, .int x1), (2, false, .int x2), (3, true, .double d3), (5, true, .double d5), (7, true, .double d7), (9, true, .double d9)] [] h dc ds := by
  unfold fn_X12_fold_b228 at hr
  intro H locs cells slots ls hH hS hl hc hs
  have X := Y.1
  refine lv_iload_n X.1 X.2.1 dX12_fold_228 rfl (mz_at hl 0 rfl) ?_
  refine mz_if_ne X 237 dX12_fold_229 (by decide) hr (fun hr => ?_) (fun hr => ?_)
  · refine lv_iload_n X.1 X.2.1 dX12_fold_237 rfl (mz_at hl 0 rfl) ?_
    refine lv_iconst (v := 1) X.1 X.2.1 dX12_fold_238 (by decide) ?_
    refine mz_icmp_ne X 246 dX12_fold_239 (by decide) hr (fun hr => ?_) (fun hr => ?_)
    · refine lv_iload_n X.1 X.2.1 dX12_fold_246 rfl (mz_at hl 0 rfl) ?_
      refine lv_iconst (v := 2) X.1 X.2.1 dX12_fold_247 (by decide) ?_
      refine mz_icmp_ne X 256 dX12_fold_248 (by decide) hr (fun hr => ?_) (fun hr => ?_)
      · refine lv_iload_n X.1 X.2.1 dX12_fold_256 rfl (mz_at hl 0 rfl) ?_
        refine lv_iconst (v := 3) X.1 X.2.1 dX12_fold_257 (by decide) ?_
        refine mz_icmp_ne X 266 dX12_fold_258 (by decide) hr (fun hr => ?_) (fun hr => ?_)
        · refine lv_dload X.1 X.2.1 dX12_fold_266 (mz_at hl 5 rfl) ?_
          exact pf_X12_fold_b268 r Y h d9 _ _ hr H locs cells slots ls hH hS (mz_sub hl [] rfl) hc hs
        · refine lv_dload X.1 X.2.1 dX12_fold_261 (mz_at hl 4 rfl) ?_
          refine lv_goto (tgt := 268) X.1 X.2.1 dX12_fold_263 (by decide) ?_
          exact pf_X12_fold_b268 r Y h d7 _ _ hr H locs cells slots ls hH hS (mz_sub hl [] rfl) hc hs
      · refine lv_dload X.1 X.2.1 dX12_fold_251 (mz_at hl 3 rfl) ?_
        refine lv_goto (tgt := 268) X.1 X.2.1 dX12_fold_253 (by decide) ?_
        exact pf_X12_fold_b268 r Y h d5 _ _ hr H locs cells slots ls hH hS (mz_sub hl [] rfl) hc hs
    · refine lv_dload_n X.1 X.2.1 dX12_fold_242 rfl (mz_at hl 2 rfl) ?_
      refine lv_goto (tgt := 268) X.1 X.2.1 dX12_fold_243 (by decide) ?_
      exact pf_X12_fold_b268 r Y h d3 _ _ hr H locs cells slots ls hH hS (mz_sub hl [] rfl) hc hs
  · refine lv_iload_n X.1 X.2.1 dX12_fold_232 rfl (mz_at hl 1 rfl) ?_
    refine lv_i2d X.1 X.2.1 dX12_fold_233 ?_
    refine lv_goto (tgt := 268) X.1 X.2.1 dX12_fold_234 (by decide) ?_
    exact pf_X12_fold_b268 r Y h (FP.i2d x2) _ _ hr H locs cells slots ls hH hS (mz_sub hl [] rfl) hc hs
def fn_X12_fold_b205 (rc29 : mz_H → (Option Nat) → Int32 → Int32 → UInt64 → UInt64 → UInt64 → UInt64 → Int32 → mz_Res Int64) (h : mz_H) (a0 : (Option Nat)) (x1 : Int32) (x2 : Int32) (d3 : UInt64) (d5 : UInt64) (d7 : UInt64) (d9 : UInt64) (x11 : Int32) : mz_Res Int64 :=
  mz_op (some (x11 + 1)) fun v1 =>
  rc29 h a0 x1 x2 d3 d5 d7 d9 v1
set_option maxHeartbeats 4000000 in
set_option maxRecDepth 100000 in
theorem pf_X12_fold_b205 (r : Int64) (Y : mz_Y p g RX12 cX12_fold 15 (some .long) "fold" (mz_AF h0) s m args meth c) {rc29 : mz_H → (Option Nat) → Int32 → Int32 → UInt64 → UInt64 → UInt64 → UInt64 → Int32 → mz_Res Int64} (hrc29 : ∀ (h : mz_H) (a0 : (Option Nat)) (x1 : Int32) (x2 : Int32) (d3 : UInt64) (d5 : UInt64) (d7 : UInt64) (d9 : UInt64) (x11 : Int32) (dc ds : Nat), rc29 h a0 x1 x2 d3 d5 d7 d9 x11 = some (r, hf, dc, ds) → mz_Go l g p e s m args below meth c 2 44 DC DS h0 (some (Value.long r)) hf 15 29 [(0, false, va_rf a0), (1, false, .int x1), (2, false, .int x2), (3, true, .double d3), (5, true, .double d5), (7, true, .double d7), (9, true, .double d9), (11, false, .int x11)] [] h dc ds) (h : mz_H) (a0 : (Option Nat)) (x1 : Int32) (x2 : Int32) (d3 : UInt64) (d5 : UInt64) (d7 : UInt64) (d9 : UInt64) (x11 : Int32) (dc ds : Nat) (hr : fn_X12_fold_b205 rc29 h a0 x1 x2 d3 d5 d7 d9 x11 = some (r, hf, dc, ds)) : mz_Go l g p e s m args below meth c 2 44 DC DS h0 (some (Value.long r)) hf 15 205 [(0, false, va_rf a0), (1, false, .int x1), (2, false, .int x2), (3, true, .double d3), (5, true, .double d5), (7, true, .double d7), (9, true, .double d9), (11, false, .int x11)] [] h dc ds := by
  unfold fn_X12_fold_b205 at hr
  intro H locs cells slots ls hH hS hl hc hs
  have X := Y.1
  obtain ⟨v1, hv1, hr⟩ := mz_op_some hr
  have hv1 := Option.some.inj hv1
  refine mz_iinc (k := 7) X [(11, false, .int v1), (0, false, va_rf a0), (1, false, .int x1), (2, false, .int x2), (3, true, .double d3), (5, true, .double d5), (7, true, .double d7), (9, true, .double d9)] v1 dX12_fold_205 hl rfl hv1 (by decide) rfl (fun ls hl => ?_)
  refine lv_goto (tgt := 29) X.1 X.2.1 dX12_fold_208 (by decide) ?_
  exact hrc29 h a0 x1 x2 d3 d5 d7 d9 v1 _ _ hr H locs cells slots ls hH hS (mz_sub hl [1, 2, 3, 4, 5, 6, 7, 0] rfl) hc hs
def fn_X12_fold_b183 (rc29 : mz_H → (Option Nat) → Int32 → Int32 → UInt64 → UInt64 → UInt64 → UInt64 → Int32 → mz_Res Int64) (h : mz_H) (a0 : (Option Nat)) (x1 : Int32) (x2 : Int32) (d3 : UInt64) (d7 : UInt64) (d9 : UInt64) (x11 : Int32) (d13 : UInt64) (s0 : UInt64) : mz_Res Int64 :=
  mz_chk (mz_n64 (FP.dadd d7 d13)) <|
  mz_op (some (FP.dadd d7 d13)) fun v1 =>
  mz_call (fn_X12_nearest h d13) fun v2 h =>
  mz_chk (mz_n64 (FP.dadd d9 v2)) <|
  mz_op (some (FP.dadd d9 v2)) fun v3 =>
  mz_op (some (x2 + 1)) fun v4 =>
  fn_X12_fold_b205 rc29 h a0 x1 v4 d3 s0 v1 v3 x11
set_option maxHeartbeats 4000000 in
set_option maxRecDepth 100000 in
theorem pf_X12_fold_b183 (r : Int64) (Y : mz_Y p g RX12 cX12_fold 15 (some .long) "fold" (mz_AF h0) s m args meth c) {rc29 : mz_H → (Option Nat) → Int32 → Int32 → UInt64 → UInt64 → UInt64 → UInt64 → Int32 → mz_Res Int64} (hrc29 : ∀ (h : mz_H) (a0 : (Option Nat)) (x1 : Int32) (x2 : Int32) (d3 : UInt64) (d5 : UInt64) (d7 : UInt64) (d9 : UInt64) (x11 : Int32) (dc ds : Nat), rc29 h a0 x1 x2 d3 d5 d7 d9 x11 = some (r, hf, dc, ds) → mz_Go l g p e s m args below meth c 2 44 DC DS h0 (some (Value.long r)) hf 15 29 [(0, false, va_rf a0), (1, false, .int x1), (2, false, .int x2), (3, true, .double d3), (5, true, .double d5), (7, true, .double d7), (9, true, .double d9), (11, false, .int x11)] [] h dc ds) (h : mz_H) (a0 : (Option Nat)) (x1 : Int32) (x2 : Int32) (d3 : UInt64) (d7 : UInt64) (d9 : UInt64) (x11 : Int32) (d13 : UInt64) (s0 : UInt64) (dc ds : Nat) (hr : fn_X12_fold_b183 rc29 h a0 x1 x2 d3 d7 d9 x11 d13 s0 = some (r, hf, dc, ds)) : mz_Go l g p e s m args below meth c 2 44 DC DS h0 (some (Value.long r)) hf 15 183 [(0, false, va_rf a0), (1, false, .int x1), (2, false, .int x2), (3, true, .double d3), (7, true, .double d7), (9, true, .double d9), (11, false, .int x11), (13, true, .double d13)] [.double s0] h dc ds := by
  unfold fn_X12_fold_b183 at hr
  intro H locs cells slots ls hH hS hl hc hs
  have X := Y.1
  refine mz_dstore X [(5, true, .double s0), (0, false, va_rf a0), (1, false, .int x1), (2, false, .int x2), (3, true, .double d3), (7, true, .double d7), (9, true, .double d9), (11, false, .int x11), (13, true, .double d13)] dX12_fold_183 hl (by decide) rfl (fun ls hl => ?_)
  refine lv_dload X.1 X.2.1 dX12_fold_185 (mz_at hl 5 rfl) ?_
  refine lv_dload X.1 X.2.1 dX12_fold_187 (mz_at hl 8 rfl) ?_
  refine mz_dadd X dX12_fold_189 hr (fun hr => ?_)
  refine mz_topd hr (fun v1 hv1 hr => ?_)
  refine mz_dstore X [(7, true, .double v1), (5, true, .double s0), (0, false, va_rf a0), (1, false, .int x1), (2, false, .int x2), (3, true, .double d3), (9, true, .double d9), (11, false, .int x11), (13, true, .double d13)] dX12_fold_190 hl (by decide) rfl (fun ls hl => ?_)
  refine lv_dload X.1 X.2.1 dX12_fold_192 (mz_at hl 6 rfl) ?_
  refine lv_dload X.1 X.2.1 dX12_fold_194 (mz_at hl 8 rfl) ?_
  refine mz_kS Value.double X hH hS hl.1.1 [.double d13] [.double d9] hr (ct_X12_nearest l g h d13) mb_RX12_294 im_X12_nearest rfl (Nat.le_of_ble_eq_true rfl) ⟨Nat.le_of_ble_eq_true rfl, Nat.le_of_ble_eq_true rfl⟩ hc hs dX12_fold_196 rfl (fun v2 h H locs cells slots dc ds hr hH hS hc hs => ?_)
  refine mz_dadd X dX12_fold_199 hr (fun hr => ?_)
  refine mz_topd hr (fun v3 hv3 hr => ?_)
  refine mz_dstore X [(9, true, .double v3), (7, true, .double v1), (5, true, .double s0), (0, false, va_rf a0), (1, false, .int x1), (2, false, .int x2), (3, true, .double d3), (11, false, .int x11), (13, true, .double d13)] dX12_fold_200 hl (by decide) rfl (fun ls hl => ?_)
  obtain ⟨v4, hv4, hr⟩ := mz_op_some hr
  have hv4 := Option.some.inj hv4
  refine mz_iinc (k := 5) X [(2, false, .int v4), (9, true, .double v3), (7, true, .double v1), (5, true, .double s0), (0, false, va_rf a0), (1, false, .int x1), (3, true, .double d3), (11, false, .int x11), (13, true, .double d13)] v4 dX12_fold_202 hl rfl hv4 (by decide) rfl (fun ls hl => ?_)
  exact pf_X12_fold_b205 r Y hrc29 h a0 x1 v4 d3 s0 v1 v3 x11 _ _ hr H locs cells slots ls hH hS (mz_sub hl [4, 5, 0, 6, 3, 2, 1, 7] rfl) hc hs
def fn_X12_fold_b181 (rc29 : mz_H → (Option Nat) → Int32 → Int32 → UInt64 → UInt64 → UInt64 → UInt64 → Int32 → mz_Res Int64) (h : mz_H) (a0 : (Option Nat)) (x1 : Int32) (x2 : Int32) (d3 : UInt64) (d5 : UInt64) (d7 : UInt64) (d9 : UInt64) (x11 : Int32) (d13 : UInt64) : mz_Res Int64 :=
  fn_X12_fold_b183 rc29 h a0 x1 x2 d3 d7 d9 x11 d13 d5
set_option maxHeartbeats 4000000 in
set_option maxRecDepth 100000 in
theorem pf_X12_fold_b181 (r : Int64) (Y : mz_Y p g RX12 cX12_fold 15 (some .long) "fold" (mz_AF h0) s m args meth c) {rc29 : mz_H → (Option Nat) → Int32 → Int32 → UInt64 → UInt64 → UInt64 → UInt64 → Int32 → mz_Res Int64} (hrc29 : ∀ (h : mz_H) (a0 : (Option Nat)) (x1 : Int32) (x2 : Int32) (d3 : UInt64) (d5 : UInt64) (d7 : UInt64) (d9 : UInt64) (x11 : Int32) (dc ds : Nat), rc29 h a0 x1 x2 d3 d5 d7 d9 x11 = some (r, hf, dc, ds) → mz_Go l g p e s m args below meth c 2 44 DC DS h0 (some (Value.long r)) hf 15 29 [(0, false, va_rf a0), (1, false, .int x1), (2, false, .int x2), (3, true, .double d3), (5, true, .double d5), (7, true, .double d7), (9, true, .double d9), (11, false, .int x11)] [] h dc ds) (h : mz_H) (a0 : (Option Nat)) (x1 : Int32) (x2 : Int32) (d3 : UInt64) (d5 : UInt64) (d7 : UInt64) (d9 : UInt64) (x11 : Int32) (d13 : UInt64) (dc ds : Nat) (hr : fn_X12_fold_b181 rc29 h a0 x1 x2 d3 d5 d7 d9 x11 d13 = some (r, hf, dc, ds)) : mz_Go l g p e s m args below meth c 2 44 DC DS h0 (some (Value.long r)) hf 15 181 [(0, false, va_rf a0), (1, false, .int x1), (2, false, .int x2), (3, true, .double d3), (5, true, .double d5), (7, true, .double d7), (9, true, .double d9), (11, false, .int x11), (13, true, .double d13)] [] h dc ds := by
  unfold fn_X12_fold_b181 at hr
  intro H locs cells slots ls hH hS hl hc hs
  have X := Y.1
  refine lv_dload X.1 X.2.1 dX12_fold_181 (mz_at hl 4 rfl) ?_
  exact pf_X12_fold_b183 r Y hrc29 h a0 x1 x2 d3 d7 d9 x11 d13 d5 _ _ hr H locs cells slots ls hH hS (mz_sub hl [0, 1, 2, 3, 5, 6, 7, 8] rfl) hc hs
def fn_X12_fold_b176 (rc29 : mz_H → (Option Nat) → Int32 → Int32 → UInt64 → UInt64 → UInt64 → UInt64 → Int32 → mz_Res Int64) (h : mz_H) (a0 : (Option Nat)) (x1 : Int32) (x2 : Int32) (d3 : UInt64) (d7 : UInt64) (d9 : UInt64) (x11 : Int32) (d13 : UInt64) : mz_Res Int64 :=
  fn_X12_fold_b183 rc29 h a0 x1 x2 d3 d7 d9 x11 d13 d13
set_option maxHeartbeats 4000000 in
set_option maxRecDepth 100000 in
theorem pf_X12_fold_b176 (r : Int64) (Y : mz_Y p g RX12 cX12_fold 15 (some .long) "fold" (mz_AF h0) s m args meth c) {rc29 : mz_H → (Option Nat) → Int32 → Int32 → UInt64 → UInt64 → UInt64 → UInt64 → Int32 → mz_Res Int64} (hrc29 : ∀ (h : mz_H) (a0 : (Option Nat)) (x1 : Int32) (x2 : Int32) (d3 : UInt64) (d5 : UInt64) (d7 : UInt64) (d9 : UInt64) (x11 : Int32) (dc ds : Nat), rc29 h a0 x1 x2 d3 d5 d7 d9 x11 = some (r, hf, dc, ds) → mz_Go l g p e s m args below meth c 2 44 DC DS h0 (some (Value.long r)) hf 15 29 [(0, false, va_rf a0), (1, false, .int x1), (2, false, .int x2), (3, true, .double d3), (5, true, .double d5), (7, true, .double d7), (9, true, .double d9), (11, false, .int x11)] [] h dc ds) (h : mz_H) (a0 : (Option Nat)) (x1 : Int32) (x2 : Int32) (d3 : UInt64) (d7 : UInt64) (d9 : UInt64) (x11 : Int32) (d13 : UInt64) (dc ds : Nat) (hr : fn_X12_fold_b176 rc29 h a0 x1 x2 d3 d7 d9 x11 d13 = some (r, hf, dc, ds)) : mz_Go l g p e s m args below meth c 2 44 DC DS h0 (some (Value.long r)) hf 15 176 [(0, false, va_rf a0), (1, false, .int x1), (2, false, .int x2), (3, true, .double d3), (7, true, .double d7), (9, true, .double d9), (11, false, .int x11), (13, true, .double d13)] [] h dc ds := by
  unfold fn_X12_fold_b176 at hr
  intro H locs cells slots ls hH hS hl hc hs
  have X := Y.1
  refine lv_dload X.1 X.2.1 dX12_fold_176 (mz_at hl 7 rfl) ?_
  refine lv_goto (tgt := 183) X.1 X.2.1 dX12_fold_178 (by decide) ?_
  exact pf_X12_fold_b183 r Y hrc29 h a0 x1 x2 d3 d7 d9 x11 d13 d13 _ _ hr H locs cells slots ls hH hS (mz_sub hl [0, 1, 2, 3, 4, 5, 6, 7] rfl) hc hs
def fn_X12_fold_b145 (rc29 : mz_H → (Option Nat) → Int32 → Int32 → UInt64 → UInt64 → UInt64 → UInt64 → Int32 → mz_Res Int64) (h : mz_H) (a0 : (Option Nat)) (x1 : Int32) (x2 : Int32) (d5 : UInt64) (d7 : UInt64) (d9 : UInt64) (x11 : Int32) (d13 : UInt64) (s0 : UInt64) : mz_Res Int64 :=
  if x2 = 0 then
    fn_X12_fold_b176 rc29 h a0 x1 x2 s0 d7 d9 x11 d13
  else
    if 0 < (Op.cmpValue (FP.dcmp d13 d5) .l) then
      fn_X12_fold_b176 rc29 h a0 x1 x2 s0 d7 d9 x11 d13
    else
      if (Op.cmpValue (FP.dcmp d13 d5) .l) = 0 then
        mz_call (fn_J_d2l h d5) fun v1 h =>
        if 0 ≤ (lg_cmp v1 0) then
          fn_X12_fold_b181 rc29 h a0 x1 x2 s0 d5 d7 d9 x11 d13
        else
          fn_X12_fold_b176 rc29 h a0 x1 x2 s0 d7 d9 x11 d13
      else
        fn_X12_fold_b181 rc29 h a0 x1 x2 s0 d5 d7 d9 x11 d13
set_option maxHeartbeats 4000000 in
set_option maxRecDepth 100000 in
theorem pf_X12_fold_b145 (r : Int64) (Y : mz_Y p g RX12 cX12_fold 15 (some .long) "fold" (mz_AF h0) s m args meth c) {rc29 : mz_H → (Option Nat) → Int32 → Int32 → UInt64 → UInt64 → UInt64 → UInt64 → Int32 → mz_Res Int64} (hrc29 : ∀ (h : mz_H) (a0 : (Option Nat)) (x1 : Int32) (x2 : Int32) (d3 : UInt64) (d5 : UInt64) (d7 : UInt64) (d9 : UInt64) (x11 : Int32) (dc ds : Nat), rc29 h a0 x1 x2 d3 d5 d7 d9 x11 = some (r, hf, dc, ds) → mz_Go l g p e s m args below meth c 2 44 DC DS h0 (some (Value.long r)) hf 15 29 [(0, false, va_rf a0), (1, false, .int x1), (2, false, .int x2), (3, true, .double d3), (5, true, .double d5), (7, true, .double d7), (9, true, .double d9), (11, false, .int x11)] [] h dc ds) (h : mz_H) (a0 : (Option Nat)) (x1 : Int32) (x2 : Int32) (d5 : UInt64) (d7 : UInt64) (d9 : UInt64) (x11 : Int32) (d13 : UInt64) (s0 : UInt64) (dc ds : Nat) (hr : fn_X12_fold_b145 rc29 h a0 x1 x2 d5 d7 d9 x11 d13 s0 = some (r, hf, dc, ds)) : mz_Go l g p e s m args below meth c 2 44 DC DS h0 (some (Value.long r)) hf 15 145 [(0, false, va_rf a0), (1, false, .int x1), (2, false, .int x2), (5, true, .double d5), (7, true, .double d7), (9, true, .double d9), (11, false, .int x11), (13, true, .double d13)] [.double s0] h dc ds := by
  unfold fn_X12_fold_b145 at hr
  intro H locs cells slots ls hH hS hl hc hs
  have X := Y.1
  refine mz_dstore_n X [(3, true, .double s0), (0, false, va_rf a0), (1, false, .int x1), (2, false, .int x2), (5, true, .double d5), (7, true, .double d7), (9, true, .double d9), (11, false, .int x11), (13, true, .double d13)] dX12_fold_145 rfl hl (by decide) rfl (fun ls hl => ?_)
  refine lv_iload_n X.1 X.2.1 dX12_fold_146 rfl (mz_at hl 3 rfl) ?_
  refine mz_if_eq X 176 dX12_fold_147 (by decide) hr (fun hr => ?_) (fun hr => ?_)
  · exact pf_X12_fold_b176 r Y hrc29 h a0 x1 x2 s0 d7 d9 x11 d13 _ _ hr H locs cells slots ls hH hS (mz_sub hl [1, 2, 3, 0, 5, 6, 7, 8] rfl) hc hs
  · refine lv_dload X.1 X.2.1 dX12_fold_150 (mz_at hl 8 rfl) ?_
    refine lv_dload X.1 X.2.1 dX12_fold_152 (mz_at hl 4 rfl) ?_
    refine lv_dcmp X.1 X.2.1 dX12_fold_154 ?_
    refine mz_if_gt X 176 dX12_fold_155 (by decide) hr (fun hr => ?_) (fun hr => ?_)
    · exact pf_X12_fold_b176 r Y hrc29 h a0 x1 x2 s0 d7 d9 x11 d13 _ _ hr H locs cells slots ls hH hS (mz_sub hl [1, 2, 3, 0, 5, 6, 7, 8] rfl) hc hs
    · refine lv_dload X.1 X.2.1 dX12_fold_158 (mz_at hl 8 rfl) ?_
      refine lv_dload X.1 X.2.1 dX12_fold_160 (mz_at hl 4 rfl) ?_
      refine lv_dcmp X.1 X.2.1 dX12_fold_162 ?_
      refine mz_if_ne X 181 dX12_fold_163 (by decide) hr (fun hr => ?_) (fun hr => ?_)
      · exact pf_X12_fold_b181 r Y hrc29 h a0 x1 x2 s0 d5 d7 d9 x11 d13 _ _ hr H locs cells slots ls hH hS (mz_sub hl [1, 2, 3, 0, 4, 5, 6, 7, 8] rfl) hc hs
      · refine lv_dload X.1 X.2.1 dX12_fold_166 (mz_at hl 4 rfl) ?_
        refine mz_kS Value.long X hH hS hl.1.1 [.double d5] [] hr (ct_J_d2l l g h d5) mb_RX12_241 im_J_d2l rfl (Nat.le_of_ble_eq_true rfl) ⟨Nat.le_of_ble_eq_true rfl, Nat.le_of_ble_eq_true rfl⟩ hc hs dX12_fold_168 rfl (fun v1 h H locs cells slots dc ds hr hH hS hc hs => ?_)
        refine lv_lconst (v := 0) X.1 X.2.1 dX12_fold_171 (by decide) ?_
        refine W.lcmp X.1 X.2.1 dX12_fold_172 ?_
        refine mz_if_ge X 181 dX12_fold_173 (by decide) hr (fun hr => ?_) (fun hr => ?_)
        · exact pf_X12_fold_b181 r Y hrc29 h a0 x1 x2 s0 d5 d7 d9 x11 d13 _ _ hr H locs cells slots ls hH hS (mz_sub hl [1, 2, 3, 0, 4, 5, 6, 7, 8] rfl) hc hs
        · exact pf_X12_fold_b176 r Y hrc29 h a0 x1 x2 s0 d7 d9 x11 d13 _ _ hr H locs cells slots ls hH hS (mz_sub hl [1, 2, 3, 0, 5, 6, 7, 8] rfl) hc hs
def fn_X12_fold_b144 (rc29 : mz_H → (Option Nat) → Int32 → Int32 → UInt64 → UInt64 → UInt64 → UInt64 → Int32 → mz_Res Int64) (h : mz_H) (a0 : (Option Nat)) (x1 : Int32) (x2 : Int32) (d3 : UInt64) (d5 : UInt64) (d7 : UInt64) (d9 : UInt64) (x11 : Int32) (d13 : UInt64) : mz_Res Int64 :=
  fn_X12_fold_b145 rc29 h a0 x1 x2 d5 d7 d9 x11 d13 d3
set_option maxHeartbeats 4000000 in
set_option maxRecDepth 100000 in
theorem pf_X12_fold_b144 (r : Int64) (Y : mz_Y p g RX12 cX12_fold 15 (some .long) "fold" (mz_AF h0) s m args meth c) {rc29 : mz_H → (Option Nat) → Int32 → Int32 → UInt64 → UInt64 → UInt64 → UInt64 → Int32 → mz_Res Int64} (hrc29 : ∀ (h : mz_H) (a0 : (Option Nat)) (x1 : Int32) (x2 : Int32) (d3 : UInt64) (d5 : UInt64) (d7 : UInt64) (d9 : UInt64) (x11 : Int32) (dc ds : Nat), rc29 h a0 x1 x2 d3 d5 d7 d9 x11 = some (r, hf, dc, ds) → mz_Go l g p e s m args below meth c 2 44 DC DS h0 (some (Value.long r)) hf 15 29 [(0, false, va_rf a0), (1, false, .int x1), (2, false, .int x2), (3, true, .double d3), (5, true, .double d5), (7, true, .double d7), (9, true, .double d9), (11, false, .int x11)] [] h dc ds) (h : mz_H) (a0 : (Option Nat)) (x1 : Int32) (x2 : Int32) (d3 : UInt64) (d5 : UInt64) (d7 : UInt64) (d9 : UInt64) (x11 : Int32) (d13 : UInt64) (dc ds : Nat) (hr : fn_X12_fold_b144 rc29 h a0 x1 x2 d3 d5 d7 d9 x11 d13 = some (r, hf, dc, ds)) : mz_Go l g p e s m args below meth c 2 44 DC DS h0 (some (Value.long r)) hf 15 144 [(0, false, va_rf a0), (1, false, .int x1), (2, false, .int x2), (3, true, .double d3), (5, true, .double d5), (7, true, .double d7), (9, true, .double d9), (11, false, .int x11), (13, true, .double d13)] [] h dc ds := by
  unfold fn_X12_fold_b144 at hr
  intro H locs cells slots ls hH hS hl hc hs
  have X := Y.1
  refine lv_dload_n X.1 X.2.1 dX12_fold_144 rfl (mz_at hl 3 rfl) ?_
  exact pf_X12_fold_b145 r Y hrc29 h a0 x1 x2 d5 d7 d9 x11 d13 d3 _ _ hr H locs cells slots ls hH hS (mz_sub hl [0, 1, 2, 4, 5, 6, 7, 8] rfl) hc hs
def fn_X12_fold_b139 (rc29 : mz_H → (Option Nat) → Int32 → Int32 → UInt64 → UInt64 → UInt64 → UInt64 → Int32 → mz_Res Int64) (h : mz_H) (a0 : (Option Nat)) (x1 : Int32) (x2 : Int32) (d5 : UInt64) (d7 : UInt64) (d9 : UInt64) (x11 : Int32) (d13 : UInt64) : mz_Res Int64 :=
  fn_X12_fold_b145 rc29 h a0 x1 x2 d5 d7 d9 x11 d13 d13
set_option maxHeartbeats 4000000 in
set_option maxRecDepth 100000 in
theorem pf_X12_fold_b139 (r : Int64) (Y : mz_Y p g RX12 cX12_fold 15 (some .long) "fold" (mz_AF h0) s m args meth c) {rc29 : mz_H → (Option Nat) → Int32 → Int32 → UInt64 → UInt64 → UInt64 → UInt64 → Int32 → mz_Res Int64} (hrc29 : ∀ (h : mz_H) (a0 : (Option Nat)) (x1 : Int32) (x2 : Int32) (d3 : UInt64) (d5 : UInt64) (d7 : UInt64) (d9 : UInt64) (x11 : Int32) (dc ds : Nat), rc29 h a0 x1 x2 d3 d5 d7 d9 x11 = some (r, hf, dc, ds) → mz_Go l g p e s m args below meth c 2 44 DC DS h0 (some (Value.long r)) hf 15 29 [(0, false, va_rf a0), (1, false, .int x1), (2, false, .int x2), (3, true, .double d3), (5, true, .double d5), (7, true, .double d7), (9, true, .double d9), (11, false, .int x11)] [] h dc ds) (h : mz_H) (a0 : (Option Nat)) (x1 : Int32) (x2 : Int32) (d5 : UInt64) (d7 : UInt64) (d9 : UInt64) (x11 : Int32) (d13 : UInt64) (dc ds : Nat) (hr : fn_X12_fold_b139 rc29 h a0 x1 x2 d5 d7 d9 x11 d13 = some (r, hf, dc, ds)) : mz_Go l g p e s m args below meth c 2 44 DC DS h0 (some (Value.long r)) hf 15 139 [(0, false, va_rf a0), (1, false, .int x1), (2, false, .int x2), (5, true, .double d5), (7, true, .double d7), (9, true, .double d9), (11, false, .int x11), (13, true, .double d13)] [] h dc ds := by
  unfold fn_X12_fold_b139 at hr
  intro H locs cells slots ls hH hS hl hc hs
  have X := Y.1
  refine lv_dload X.1 X.2.1 dX12_fold_139 (mz_at hl 7 rfl) ?_
  refine lv_goto (tgt := 145) X.1 X.2.1 dX12_fold_141 (by decide) ?_
  exact pf_X12_fold_b145 r Y hrc29 h a0 x1 x2 d5 d7 d9 x11 d13 d13 _ _ hr H locs cells slots ls hH hS (mz_sub hl [0, 1, 2, 3, 4, 5, 6, 7] rfl) hc hs
def fn_X12_fold_b109 (rc29 : mz_H → (Option Nat) → Int32 → Int32 → UInt64 → UInt64 → UInt64 → UInt64 → Int32 → mz_Res Int64) (h : mz_H) (a0 : (Option Nat)) (x1 : Int32) (x2 : Int32) (d3 : UInt64) (d5 : UInt64) (d7 : UInt64) (d9 : UInt64) (x11 : Int32) (s0 : UInt64) : mz_Res Int64 :=
  if x2 = 0 then
    fn_X12_fold_b139 rc29 h a0 x1 x2 d5 d7 d9 x11 s0
  else
    if (Op.cmpValue (FP.dcmp s0 d3) .g) < 0 then
      fn_X12_fold_b139 rc29 h a0 x1 x2 d5 d7 d9 x11 s0
    else
      if (Op.cmpValue (FP.dcmp s0 d3) .l) = 0 then
        mz_call (fn_J_d2l h s0) fun v1 h =>
        if 0 ≤ (lg_cmp v1 0) then
          fn_X12_fold_b144 rc29 h a0 x1 x2 d3 d5 d7 d9 x11 s0
        else
          fn_X12_fold_b139 rc29 h a0 x1 x2 d5 d7 d9 x11 s0
      else
        fn_X12_fold_b144 rc29 h a0 x1 x2 d3 d5 d7 d9 x11 s0
set_option maxHeartbeats 4000000 in
set_option maxRecDepth 100000 in
theorem pf_X12_fold_b109 (r : Int64) (Y : mz_Y p g RX12 cX12_fold 15 (some .long) "fold" (mz_AF h0) s m args meth c) {rc29 : mz_H → (Option Nat) → Int32 → Int32 → UInt64 → UInt64 → UInt64 → UInt64 → Int32 → mz_Res Int64} (hrc29 : ∀ (h : mz_H) (a0 : (Option Nat)) (x1 : Int32) (x2 : Int32) (d3 : UInt64) (d5 : UInt64) (d7 : UInt64) (d9 : UInt64) (x11 : Int32) (dc ds : Nat), rc29 h a0 x1 x2 d3 d5 d7 d9 x11 = some (r, hf, dc, ds) → mz_Go l g p e s m args below meth c 2 44 DC DS h0 (some (Value.long r)) hf 15 29 [(0, false, va_rf a0), (1, false, .int x1), (2, false, .int x2), (3, true, .double d3), (5, true, .double d5), (7, true, .double d7), (9, true, .double d9), (11, false, .int x11)] [] h dc ds) (h : mz_H) (a0 : (Option Nat)) (x1 : Int32) (x2 : Int32) (d3 : UInt64) (d5 : UInt64) (d7 : UInt64) (d9 : UInt64) (x11 : Int32) (s0 : UInt64) (dc ds : Nat) (hr : fn_X12_fold_b109 rc29 h a0 x1 x2 d3 d5 d7 d9 x11 s0 = some (r, hf, dc, ds)) : mz_Go l g p e s m args below meth c 2 44 DC DS h0 (some (Value.long r)) hf 15 109 [(0, false, va_rf a0), (1, false, .int x1), (2, false, .int x2), (3, true, .double d3), (5, true, .double d5), (7, true, .double d7), (9, true, .double d9), (11, false, .int x11)] [.double s0] h dc ds := by
  unfold fn_X12_fold_b109 at hr
  intro H locs cells slots ls hH hS hl hc hs
  have X := Y.1
  refine mz_dstore X [(13, true, .double s0), (0, false, va_rf a0), (1, false, .int x1), (2, false, .int x2), (3, true, .double d3), (5, true, .double d5), (7, true, .double d7), (9, true, .double d9), (11, false, .int x11)] dX12_fold_109 hl (by decide) rfl (fun ls hl => ?_)
  refine lv_iload_n X.1 X.2.1 dX12_fold_111 rfl (mz_at hl 3 rfl) ?_
  refine mz_if_eq X 139 dX12_fold_112 (by decide) hr (fun hr => ?_) (fun hr => ?_)
  · exact pf_X12_fold_b139 r Y hrc29 h a0 x1 x2 d5 d7 d9 x11 s0 _ _ hr H locs cells slots ls hH hS (mz_sub hl [1, 2, 3, 5, 6, 7, 8, 0] rfl) hc hs
  · refine lv_dload X.1 X.2.1 dX12_fold_115 (mz_at hl 0 rfl) ?_
    refine lv_dload_n X.1 X.2.1 dX12_fold_117 rfl (mz_at hl 4 rfl) ?_
    refine lv_dcmp X.1 X.2.1 dX12_fold_118 ?_
    refine mz_if_lt X 139 dX12_fold_119 (by decide) hr (fun hr => ?_) (fun hr => ?_)
    · exact pf_X12_fold_b139 r Y hrc29 h a0 x1 x2 d5 d7 d9 x11 s0 _ _ hr H locs cells slots ls hH hS (mz_sub hl [1, 2, 3, 5, 6, 7, 8, 0] rfl) hc hs
    · refine lv_dload X.1 X.2.1 dX12_fold_122 (mz_at hl 0 rfl) ?_
      refine lv_dload_n X.1 X.2.1 dX12_fold_124 rfl (mz_at hl 4 rfl) ?_
      refine lv_dcmp X.1 X.2.1 dX12_fold_125 ?_
      refine mz_if_ne X 144 dX12_fold_126 (by decide) hr (fun hr => ?_) (fun hr => ?_)
      · exact pf_X12_fold_b144 r Y hrc29 h a0 x1 x2 d3 d5 d7 d9 x11 s0 _ _ hr H locs cells slots ls hH hS (mz_sub hl [1, 2, 3, 4, 5, 6, 7, 8, 0] rfl) hc hs
      · refine lv_dload X.1 X.2.1 dX12_fold_129 (mz_at hl 0 rfl) ?_
        refine mz_kS Value.long X hH hS hl.1.1 [.double s0] [] hr (ct_J_d2l l g h s0) mb_RX12_241 im_J_d2l rfl (Nat.le_of_ble_eq_true rfl) ⟨Nat.le_of_ble_eq_true rfl, Nat.le_of_ble_eq_true rfl⟩ hc hs dX12_fold_131 rfl (fun v1 h H locs cells slots dc ds hr hH hS hc hs => ?_)
        refine lv_lconst (v := 0) X.1 X.2.1 dX12_fold_134 (by decide) ?_
        refine W.lcmp X.1 X.2.1 dX12_fold_135 ?_
        refine mz_if_ge X 144 dX12_fold_136 (by decide) hr (fun hr => ?_) (fun hr => ?_)
        · exact pf_X12_fold_b144 r Y hrc29 h a0 x1 x2 d3 d5 d7 d9 x11 s0 _ _ hr H locs cells slots ls hH hS (mz_sub hl [1, 2, 3, 4, 5, 6, 7, 8, 0] rfl) hc hs
        · exact pf_X12_fold_b139 r Y hrc29 h a0 x1 x2 d5 d7 d9 x11 s0 _ _ hr H locs cells slots ls hH hS (mz_sub hl [1, 2, 3, 5, 6, 7, 8, 0] rfl) hc hs
def fn_X12_fold_b83 (rc29 : mz_H → (Option Nat) → Int32 → Int32 → UInt64 → UInt64 → UInt64 → UInt64 → Int32 → mz_Res Int64) (h : mz_H) (a0 : (Option Nat)) (x1 : Int32) (x2 : Int32) (d3 : UInt64) (d5 : UInt64) (d7 : UInt64) (d9 : UInt64) (x11 : Int32) (x12 : Int32) : mz_Res Int64 :=
  if x12 = 0 then
    mz_op (mz_fR h a0 11 47) fun v1 =>
    mz_op (mz_aJ h v1 x11) fun v2 =>
    fn_X12_fold_b109 rc29 h a0 x1 x2 d3 d5 d7 d9 x11 (FP.l2d v2)
  else
    mz_op (mz_fR h a0 11 47) fun v3 =>
    mz_op (mz_aJ h v3 x11) fun v4 =>
    mz_chk (!vn_snl2d v4) <|
    fn_X12_fold_b109 rc29 h a0 x1 x2 d3 d5 d7 d9 x11 (Int64.toUInt64 v4)
set_option maxHeartbeats 4000000 in
set_option maxRecDepth 100000 in
theorem pf_X12_fold_b83 (r : Int64) (Y : mz_Y p g RX12 cX12_fold 15 (some .long) "fold" (mz_AF h0) s m args meth c) {rc29 : mz_H → (Option Nat) → Int32 → Int32 → UInt64 → UInt64 → UInt64 → UInt64 → Int32 → mz_Res Int64} (hrc29 : ∀ (h : mz_H) (a0 : (Option Nat)) (x1 : Int32) (x2 : Int32) (d3 : UInt64) (d5 : UInt64) (d7 : UInt64) (d9 : UInt64) (x11 : Int32) (dc ds : Nat), rc29 h a0 x1 x2 d3 d5 d7 d9 x11 = some (r, hf, dc, ds) → mz_Go l g p e s m args below meth c 2 44 DC DS h0 (some (Value.long r)) hf 15 29 [(0, false, va_rf a0), (1, false, .int x1), (2, false, .int x2), (3, true, .double d3), (5, true, .double d5), (7, true, .double d7), (9, true, .double d9), (11, false, .int x11)] [] h dc ds) (h : mz_H) (a0 : (Option Nat)) (x1 : Int32) (x2 : Int32) (d3 : UInt64) (d5 : UInt64) (d7 : UInt64) (d9 : UInt64) (x11 : Int32) (x12 : Int32) (dc ds : Nat) (hr : fn_X12_fold_b83 rc29 h a0 x1 x2 d3 d5 d7 d9 x11 x12 = some (r, hf, dc, ds)) : mz_Go l g p e s m args below meth c 2 44 DC DS h0 (some (Value.long r)) hf 15 83 [(0, false, va_rf a0), (1, false, .int x1), (2, false, .int x2), (3, true, .double d3), (5, true, .double d5), (7, true, .double d7), (9, true, .double d9), (11, false, .int x11), (12, false, .int x12)] [] h dc ds := by
  unfold fn_X12_fold_b83 at hr
  intro H locs cells slots ls hH hS hl hc hs
  have X := Y.1
  refine lv_iload X.1 X.2.1 dX12_fold_83 (mz_at hl 8 rfl) ?_
  refine mz_if_eq X 101 dX12_fold_85 (by decide) hr (fun hr => ?_) (fun hr => ?_)
  · refine mz_aload_n X dX12_fold_101 rfl (mz_at hl 0 rfl) ?_
    refine mz_getR X hH fl_RX12_110 dX12_fold_102 hr (fun v1 hr => ?_)
    refine lv_iload X.1 X.2.1 dX12_fold_105 (mz_at hl 7 rfl) ?_
    refine mz_lald X hH dX12_fold_107 hr (fun v2 hr => ?_)
    refine lv_l2d X.1 X.2.1 dX12_fold_108 ?_
    exact pf_X12_fold_b109 r Y hrc29 h a0 x1 x2 d3 d5 d7 d9 x11 (FP.l2d v2) _ _ hr H locs cells slots ls hH hS (mz_sub hl [0, 1, 2, 3, 4, 5, 6, 7] rfl) hc hs
  · refine mz_aload_n X dX12_fold_88 rfl (mz_at hl 0 rfl) ?_
    refine mz_getR X hH fl_RX12_110 dX12_fold_89 hr (fun v3 hr => ?_)
    refine lv_iload X.1 X.2.1 dX12_fold_92 (mz_at hl 7 rfl) ?_
    refine mz_lald X hH dX12_fold_94 hr (fun v4 hr => ?_)
    refine mz_l2dN X hl.1.1 ⟨mz_tb 1305 (by decide +kernel) rfl, mz_tb 1307 (by decide +kernel) rfl, mz_tb 1306 (by decide +kernel) rfl, mz_tb 55 (by decide +kernel) rfl⟩ (Nat.le_of_ble_eq_true rfl) ⟨Nat.le_of_ble_eq_true rfl, Nat.le_of_ble_eq_true rfl⟩ dX12_fold_95 hr (fun hr => ?_)
    refine lv_goto (tgt := 109) X.1 X.2.1 dX12_fold_98 (by decide) ?_
    exact pf_X12_fold_b109 r Y hrc29 h a0 x1 x2 d3 d5 d7 d9 x11 (Int64.toUInt64 v4) _ _ hr H locs cells slots ls hH hS (mz_sub hl [0, 1, 2, 3, 4, 5, 6, 7] rfl) hc hs
def fn_X12_fold_b60 (rc29 : mz_H → (Option Nat) → Int32 → Int32 → UInt64 → UInt64 → UInt64 → UInt64 → Int32 → mz_Res Int64) (h : mz_H) (a0 : (Option Nat)) (x1 : Int32) (x2 : Int32) (d3 : UInt64) (d5 : UInt64) (d7 : UInt64) (d9 : UInt64) (x11 : Int32) (s0 : Int32) : mz_Res Int64 :=
  if s0 = 0 then
    fn_X12_fold_b83 rc29 h a0 x1 x2 d3 d5 d7 d9 x11 s0
  else
    mz_op (mz_fR h a0 11 47) fun v1 =>
    mz_op (mz_aJ h v1 x11) fun v2 =>
    mz_call (fn_X12_isFinite h v2) fun v3 h =>
    if v3 = 0 then
      fn_X12_fold_b205 rc29 h a0 x1 x2 d3 d5 d7 d9 x11
    else
      fn_X12_fold_b83 rc29 h a0 x1 x2 d3 d5 d7 d9 x11 s0
set_option maxHeartbeats 4000000 in
set_option maxRecDepth 100000 in
theorem pf_X12_fold_b60 (r : Int64) (Y : mz_Y p g RX12 cX12_fold 15 (some .long) "fold" (mz_AF h0) s m args meth c) {rc29 : mz_H → (Option Nat) → Int32 → Int32 → UInt64 → UInt64 → UInt64 → UInt64 → Int32 → mz_Res Int64} (hrc29 : ∀ (h : mz_H) (a0 : (Option Nat)) (x1 : Int32) (x2 : Int32) (d3 : UInt64) (d5 : UInt64) (d7 : UInt64) (d9 : UInt64) (x11 : Int32) (dc ds : Nat), rc29 h a0 x1 x2 d3 d5 d7 d9 x11 = some (r, hf, dc, ds) → mz_Go l g p e s m args below meth c 2 44 DC DS h0 (some (Value.long r)) hf 15 29 [(0, false, va_rf a0), (1, false, .int x1), (2, false, .int x2), (3, true, .double d3), (5, true, .double d5), (7, true, .double d7), (9, true, .double d9), (11, false, .int x11)] [] h dc ds) (h : mz_H) (a0 : (Option Nat)) (x1 : Int32) (x2 : Int32) (d3 : UInt64) (d5 : UInt64) (d7 : UInt64) (d9 : UInt64) (x11 : Int32) (s0 : Int32) (dc ds : Nat) (hr : fn_X12_fold_b60 rc29 h a0 x1 x2 d3 d5 d7 d9 x11 s0 = some (r, hf, dc, ds)) : mz_Go l g p e s m args below meth c 2 44 DC DS h0 (some (Value.long r)) hf 15 60 [(0, false, va_rf a0), (1, false, .int x1), (2, false, .int x2), (3, true, .double d3), (5, true, .double d5), (7, true, .double d7), (9, true, .double d9), (11, false, .int x11)] [.int s0] h dc ds := by
  unfold fn_X12_fold_b60 at hr
  intro H locs cells slots ls hH hS hl hc hs
  have X := Y.1
  refine mz_istore X [(12, false, .int s0), (0, false, va_rf a0), (1, false, .int x1), (2, false, .int x2), (3, true, .double d3), (5, true, .double d5), (7, true, .double d7), (9, true, .double d9), (11, false, .int x11)] dX12_fold_60 hl (by decide) rfl (fun ls hl => ?_)
  refine lv_iload X.1 X.2.1 dX12_fold_62 (mz_at hl 0 rfl) ?_
  refine mz_if_eq X 83 dX12_fold_64 (by decide) hr (fun hr => ?_) (fun hr => ?_)
  · exact pf_X12_fold_b83 r Y hrc29 h a0 x1 x2 d3 d5 d7 d9 x11 s0 _ _ hr H locs cells slots ls hH hS (mz_sub hl [1, 2, 3, 4, 5, 6, 7, 8, 0] rfl) hc hs
  · refine mz_aload_n X dX12_fold_67 rfl (mz_at hl 1 rfl) ?_
    refine mz_getR X hH fl_RX12_110 dX12_fold_68 hr (fun v1 hr => ?_)
    refine lv_iload X.1 X.2.1 dX12_fold_71 (mz_at hl 8 rfl) ?_
    refine mz_lald X hH dX12_fold_73 hr (fun v2 hr => ?_)
    refine mz_kS Value.int X hH hS hl.1.1 [.long v2] [] hr (ct_X12_isFinite l g h v2) mb_RX12_291 im_X12_isFinite rfl (Nat.le_of_ble_eq_true rfl) ⟨Nat.le_of_ble_eq_true rfl, Nat.le_of_ble_eq_true rfl⟩ hc hs dX12_fold_74 rfl (fun v3 h H locs cells slots dc ds hr hH hS hc hs => ?_)
    refine mz_if_ne X 83 dX12_fold_77 (by decide) hr (fun hr => ?_) (fun hr => ?_)
    · exact pf_X12_fold_b83 r Y hrc29 h a0 x1 x2 d3 d5 d7 d9 x11 s0 _ _ hr H locs cells slots ls hH hS (mz_sub hl [1, 2, 3, 4, 5, 6, 7, 8, 0] rfl) hc hs
    · refine lv_goto (tgt := 205) X.1 X.2.1 dX12_fold_80 (by decide) ?_
      exact pf_X12_fold_b205 r Y hrc29 h a0 x1 x2 d3 d5 d7 d9 x11 _ _ hr H locs cells slots ls hH hS (mz_sub hl [1, 2, 3, 4, 5, 6, 7, 8] rfl) hc hs
def fn_X12_fold_b55 (rc29 : mz_H → (Option Nat) → Int32 → Int32 → UInt64 → UInt64 → UInt64 → UInt64 → Int32 → mz_Res Int64) (h : mz_H) (a0 : (Option Nat)) (x1 : Int32) (x2 : Int32) (d3 : UInt64) (d5 : UInt64) (d7 : UInt64) (d9 : UInt64) (x11 : Int32) : mz_Res Int64 :=
  fn_X12_fold_b60 rc29 h a0 x1 x2 d3 d5 d7 d9 x11 1
set_option maxHeartbeats 4000000 in
set_option maxRecDepth 100000 in
theorem pf_X12_fold_b55 (r : Int64) (Y : mz_Y p g RX12 cX12_fold 15 (some .long) "fold" (mz_AF h0) s m args meth c) {rc29 : mz_H → (Option Nat) → Int32 → Int32 → UInt64 → UInt64 → UInt64 → UInt64 → Int32 → mz_Res Int64} (hrc29 : ∀ (h : mz_H) (a0 : (Option Nat)) (x1 : Int32) (x2 : Int32) (d3 : UInt64) (d5 : UInt64) (d7 : UInt64) (d9 : UInt64) (x11 : Int32) (dc ds : Nat), rc29 h a0 x1 x2 d3 d5 d7 d9 x11 = some (r, hf, dc, ds) → mz_Go l g p e s m args below meth c 2 44 DC DS h0 (some (Value.long r)) hf 15 29 [(0, false, va_rf a0), (1, false, .int x1), (2, false, .int x2), (3, true, .double d3), (5, true, .double d5), (7, true, .double d7), (9, true, .double d9), (11, false, .int x11)] [] h dc ds) (h : mz_H) (a0 : (Option Nat)) (x1 : Int32) (x2 : Int32) (d3 : UInt64) (d5 : UInt64) (d7 : UInt64) (d9 : UInt64) (x11 : Int32) (dc ds : Nat) (hr : fn_X12_fold_b55 rc29 h a0 x1 x2 d3 d5 d7 d9 x11 = some (r, hf, dc, ds)) : mz_Go l g p e s m args below meth c 2 44 DC DS h0 (some (Value.long r)) hf 15 55 [(0, false, va_rf a0), (1, false, .int x1), (2, false, .int x2), (3, true, .double d3), (5, true, .double d5), (7, true, .double d7), (9, true, .double d9), (11, false, .int x11)] [] h dc ds := by
  unfold fn_X12_fold_b55 at hr
  intro H locs cells slots ls hH hS hl hc hs
  have X := Y.1
  refine lv_iconst (v := 1) X.1 X.2.1 dX12_fold_55 (by decide) ?_
  refine lv_goto (tgt := 60) X.1 X.2.1 dX12_fold_56 (by decide) ?_
  exact pf_X12_fold_b60 r Y hrc29 h a0 x1 x2 d3 d5 d7 d9 x11 1 _ _ hr H locs cells slots ls hH hS (mz_sub hl [0, 1, 2, 3, 4, 5, 6, 7] rfl) hc hs
def fn_X12_fold_b29 : Nat → mz_H → (Option Nat) → Int32 → Int32 → UInt64 → UInt64 → UInt64 → UInt64 → Int32 → mz_Res Int64
  | 0, _, _, _, _, _, _, _, _, _ => none
  | n + 1, h, a0, x1, x2, d3, d5, d7, d9, x11 =>
    mz_op (mz_fI h a0 11 46) fun v1 =>
    if v1 ≤ x11 then
      if x1 ≤ 0 then
        fn_X12_fold_b228 h x1 x2 d3 d5 d7 d9
      else
        if 3 ≤ x1 then
          fn_X12_fold_b228 h x1 x2 d3 d5 d7 d9
        else
          if x2 = 0 then
            mz_ret 9221120237041090560 h
          else
            fn_X12_fold_b228 h x1 x2 d3 d5 d7 d9
    else
      mz_op (mz_fI h a0 11 45) fun v2 =>
      if v2 = 5 then
        fn_X12_fold_b55 (fn_X12_fold_b29 n) h a0 x1 x2 d3 d5 d7 d9 x11
      else
        mz_op (mz_fI h a0 11 45) fun v3 =>
        if v3 = 6 then
          fn_X12_fold_b55 (fn_X12_fold_b29 n) h a0 x1 x2 d3 d5 d7 d9 x11
        else
          fn_X12_fold_b60 (fn_X12_fold_b29 n) h a0 x1 x2 d3 d5 d7 d9 x11 0
set_option maxHeartbeats 4000000 in
set_option maxRecDepth 100000 in
theorem pf_X12_fold_b29 (r : Int64) (Y : mz_Y p g RX12 cX12_fold 15 (some .long) "fold" (mz_AF h0) s m args meth c) : ∀ (n : Nat) (h : mz_H) (a0 : (Option Nat)) (x1 : Int32) (x2 : Int32) (d3 : UInt64) (d5 : UInt64) (d7 : UInt64) (d9 : UInt64) (x11 : Int32) (dc ds : Nat), fn_X12_fold_b29 n h a0 x1 x2 d3 d5 d7 d9 x11 = some (r, hf, dc, ds) → mz_Go l g p e s m args below meth c 2 44 DC DS h0 (some (Value.long r)) hf 15 29 [(0, false, va_rf a0), (1, false, .int x1), (2, false, .int x2), (3, true, .double d3), (5, true, .double d5), (7, true, .double d7), (9, true, .double d9), (11, false, .int x11)] [] h dc ds := by
  have X := Y.1
  intro n
  induction n with
  | zero => intro h a0 x1 x2 d3 d5 d7 d9 x11 dc ds hr; simp [fn_X12_fold_b29] at hr
  | succ n ih =>
    intro h a0 x1 x2 d3 d5 d7 d9 x11 dc ds hr
    rw [fn_X12_fold_b29] at hr
    intro H locs cells slots ls hH hS hl hc hs
    refine lv_iload X.1 X.2.1 dX12_fold_29 (mz_at hl 7 rfl) ?_
    refine mz_aload_n X dX12_fold_31 rfl (mz_at hl 0 rfl) ?_
    refine mz_getI X hH fl_RX12_286 dX12_fold_32 hr (fun v1 hr => ?_)
    refine mz_icmp_ge X 211 dX12_fold_35 (by decide) hr (fun hr => ?_) (fun hr => ?_)
    · refine lv_iload_n X.1 X.2.1 dX12_fold_211 rfl (mz_at hl 1 rfl) ?_
      refine mz_if_le X 228 dX12_fold_212 (by decide) hr (fun hr => ?_) (fun hr => ?_)
      · exact pf_X12_fold_b228 r Y h x1 x2 d3 d5 d7 d9 _ _ hr H locs cells slots ls hH hS (mz_sub hl [1, 2, 3, 4, 5, 6] rfl) hc hs
      · refine lv_iload_n X.1 X.2.1 dX12_fold_215 rfl (mz_at hl 1 rfl) ?_
        refine lv_iconst (v := 3) X.1 X.2.1 dX12_fold_216 (by decide) ?_
        refine mz_icmp_ge X 228 dX12_fold_217 (by decide) hr (fun hr => ?_) (fun hr => ?_)
        · exact pf_X12_fold_b228 r Y h x1 x2 d3 d5 d7 d9 _ _ hr H locs cells slots ls hH hS (mz_sub hl [1, 2, 3, 4, 5, 6] rfl) hc hs
        · refine lv_iload_n X.1 X.2.1 dX12_fold_220 rfl (mz_at hl 2 rfl) ?_
          refine mz_if_ne X 228 dX12_fold_221 (by decide) hr (fun hr => ?_) (fun hr => ?_)
          · exact pf_X12_fold_b228 r Y h x1 x2 d3 d5 d7 d9 _ _ hr H locs cells slots ls hH hS (mz_sub hl [1, 2, 3, 4, 5, 6] rfl) hc hs
          · refine mz_ldc2 (v := 9221120237041090560) X (mz_tb 1321 (by decide +kernel) rfl) dX12_fold_224 ?_
            exact mz_lret Y dX12_fold_227 hH hS hc hs hr
    · refine mz_aload_n X dX12_fold_38 rfl (mz_at hl 0 rfl) ?_
      refine mz_getI X hH fl_RX12_283 dX12_fold_39 hr (fun v2 hr => ?_)
      refine lv_iconst (v := 5) X.1 X.2.1 dX12_fold_42 (by decide) ?_
      refine mz_icmp_eq X 55 dX12_fold_43 (by decide) hr (fun hr => ?_) (fun hr => ?_)
      · exact pf_X12_fold_b55 r Y ih h a0 x1 x2 d3 d5 d7 d9 x11 _ _ hr H locs cells slots ls hH hS (mz_sub hl [0, 1, 2, 3, 4, 5, 6, 7] rfl) hc hs
      · refine mz_aload_n X dX12_fold_46 rfl (mz_at hl 0 rfl) ?_
        refine mz_getI X hH fl_RX12_283 dX12_fold_47 hr (fun v3 hr => ?_)
        refine lv_bipush (v := 6) X.1 X.2.1 dX12_fold_50 (by decide) ?_
        refine mz_icmp_ne X 59 dX12_fold_52 (by decide) hr (fun hr => ?_) (fun hr => ?_)
        · refine lv_iconst (v := 0) X.1 X.2.1 dX12_fold_59 (by decide) ?_
          exact pf_X12_fold_b60 r Y ih h a0 x1 x2 d3 d5 d7 d9 x11 0 _ _ hr H locs cells slots ls hH hS (mz_sub hl [0, 1, 2, 3, 4, 5, 6, 7] rfl) hc hs
        · exact pf_X12_fold_b55 r Y ih h a0 x1 x2 d3 d5 d7 d9 x11 _ _ hr H locs cells slots ls hH hS (mz_sub hl [0, 1, 2, 3, 4, 5, 6, 7] rfl) hc hs
def fn_X12_fold (h : mz_H) (a0 : (Option Nat)) (x1 : Int32) : mz_Res Int64 :=
  mz_call (fn_X12_within h x1 0 4) fun v1 h =>
  if v1 = 0 then
    mz_ret 9221120237041090560 h
  else
    mz_op (some FP.dconst0) fun v2 =>
    mz_op (some FP.dconst0) fun v3 =>
    mz_op (some FP.dconst0) fun v4 =>
    mz_op (some FP.dconst0) fun v5 =>
    fn_X12_fold_b29 1001 h a0 x1 0 v2 v3 v4 v5 0
set_option maxHeartbeats 4000000 in
set_option maxRecDepth 100000 in
theorem pf_X12_fold_b0 (r : Int64) (Y : mz_Y p g RX12 cX12_fold 15 (some .long) "fold" (mz_AF h0) s m args meth c) (h : mz_H) (a0 : (Option Nat)) (x1 : Int32) (dc ds : Nat) (hr : fn_X12_fold h a0 x1 = some (r, hf, dc, ds)) : mz_Go l g p e s m args below meth c 2 44 DC DS h0 (some (Value.long r)) hf 15 0 [(0, false, va_rf a0), (1, false, .int x1)] [] h dc ds := by
  unfold fn_X12_fold at hr
  intro H locs cells slots ls hH hS hl hc hs
  have X := Y.1
  refine lv_iload_n X.1 X.2.1 dX12_fold_0 rfl (mz_at hl 1 rfl) ?_
  refine lv_iconst (v := 0) X.1 X.2.1 dX12_fold_1 (by decide) ?_
  refine lv_iconst (v := 4) X.1 X.2.1 dX12_fold_2 (by decide) ?_
  refine mz_kS Value.int X hH hS hl.1.1 [.int x1, .int 0, .int 4] [] hr (ct_X12_within l g h x1 0 4) mb_RX12_142 im_X12_within rfl (Nat.le_of_ble_eq_true rfl) ⟨Nat.le_of_ble_eq_true rfl, Nat.le_of_ble_eq_true rfl⟩ hc hs dX12_fold_3 rfl (fun v1 h H locs cells slots dc ds hr hH hS hc hs => ?_)
  refine mz_if_ne X 13 dX12_fold_6 (by decide) hr (fun hr => ?_) (fun hr => ?_)
  · refine lv_iconst (v := 0) X.1 X.2.1 dX12_fold_13 (by decide) ?_
    refine mz_istore_n X [(2, false, .int 0), (0, false, va_rf a0), (1, false, .int x1)] dX12_fold_14 rfl hl (by decide) rfl (fun ls hl => ?_)
    refine lv_dconst0 X.1 X.2.1 dX12_fold_15 ?_
    refine mz_topd hr (fun v2 hv2 hr => ?_)
    refine mz_dstore_n X [(3, true, .double v2), (2, false, .int 0), (0, false, va_rf a0), (1, false, .int x1)] dX12_fold_16 rfl hl (by decide) rfl (fun ls hl => ?_)
    refine lv_dconst0 X.1 X.2.1 dX12_fold_17 ?_
    refine mz_topd hr (fun v3 hv3 hr => ?_)
    refine mz_dstore X [(5, true, .double v3), (3, true, .double v2), (2, false, .int 0), (0, false, va_rf a0), (1, false, .int x1)] dX12_fold_18 hl (by decide) rfl (fun ls hl => ?_)
    refine lv_dconst0 X.1 X.2.1 dX12_fold_20 ?_
    refine mz_topd hr (fun v4 hv4 hr => ?_)
    refine mz_dstore X [(7, true, .double v4), (5, true, .double v3), (3, true, .double v2), (2, false, .int 0), (0, false, va_rf a0), (1, false, .int x1)] dX12_fold_21 hl (by decide) rfl (fun ls hl => ?_)
    refine lv_dconst0 X.1 X.2.1 dX12_fold_23 ?_
    refine mz_topd hr (fun v5 hv5 hr => ?_)
    refine mz_dstore X [(9, true, .double v5), (7, true, .double v4), (5, true, .double v3), (3, true, .double v2), (2, false, .int 0), (0, false, va_rf a0), (1, false, .int x1)] dX12_fold_24 hl (by decide) rfl (fun ls hl => ?_)
    refine lv_iconst (v := 0) X.1 X.2.1 dX12_fold_26 (by decide) ?_
    refine mz_istore X [(11, false, .int 0), (9, true, .double v5), (7, true, .double v4), (5, true, .double v3), (3, true, .double v2), (2, false, .int 0), (0, false, va_rf a0), (1, false, .int x1)] dX12_fold_27 hl (by decide) rfl (fun ls hl => ?_)
    exact pf_X12_fold_b29 r Y 1001 h a0 x1 0 v2 v3 v4 v5 0 _ _ hr H locs cells slots ls hH hS (mz_sub hl [6, 7, 5, 4, 3, 2, 1, 0] rfl) hc hs
  · refine mz_ldc2 (v := 9221120237041090560) X (mz_tb 1321 (by decide +kernel) rfl) dX12_fold_9 ?_
    exact mz_lret Y dX12_fold_12 hH hS hc hs hr
set_option maxRecDepth 100000 in
theorem ct_X12_fold (l : Launch) (g : mz_G) (h : mz_H) (a0 : (Option Nat)) (x1 : Int32) (r : Int64) (hf : mz_H) (k n : Nat) (hr : fn_X12_fold h a0 x1 = some (r, hf, k, n)) : mz_C l g yX12_fold cX12_fold 15 (some .long) 2 44 [va_rf a0, .int x1] h (some (Value.long r)) hf k n := by
  refine mz_met (as := [(false, va_rf a0), (false, .int x1)]) (plainFor_of_name (by decide)) (mz_c1 (mz_cat_rf _) (mz_c1 rfl mz_c0)) (Nat.le_of_ble_eq_true rfl) ?_
  intro p e s m args below meth c Y
  exact pf_X12_fold_b0 r Y h a0 x1 _ _ hr
theorem dX12_at_0 : decode cX12_at 0 = .ok (.aload_n 0, 1) := by decide +kernel
theorem dX12_at_1 : decode cX12_at 1 = .ok (.iconst 0, 1) := by decide +kernel
theorem dX12_at_2 : decode cX12_at 2 = .ok (.putfield 125, 3) := by decide +kernel
theorem dX12_at_5 : decode cX12_at 5 = .ok (.aload_n 0, 1) := by decide +kernel
theorem dX12_at_6 : decode cX12_at 6 = .ok (.iload_n 1, 1) := by decide +kernel
theorem dX12_at_7 : decode cX12_at 7 = .ok (.iload_n 2, 1) := by decide +kernel
theorem dX12_at_8 : decode cX12_at 8 = .ok (.invokevirtual 226, 3) := by decide +kernel
theorem dX12_at_11 : decode cX12_at 11 = .ok (.ifCond .eq 10, 3) := by decide +kernel
theorem dX12_at_14 : decode cX12_at 14 = .ok (.lload_n 3, 1) := by decide +kernel
theorem dX12_at_15 : decode cX12_at 15 = .ok (.invokestatic 291, 3) := by decide +kernel
theorem dX12_at_18 : decode cX12_at 18 = .ok (.ifCond .ne 7, 3) := by decide +kernel
theorem dX12_at_21 : decode cX12_at 21 = .ok (.ldc2_w 259, 3) := by decide +kernel
theorem dX12_at_24 : decode cX12_at 24 = .ok (.lreturn, 1) := by decide +kernel
theorem dX12_at_25 : decode cX12_at 25 = .ok (.bipush 16, 2) := by decide +kernel
theorem dX12_at_27 : decode cX12_at 27 = .ok (.iload_n 1, 1) := by decide +kernel
theorem dX12_at_28 : decode cX12_at 28 = .ok (.imul, 1) := by decide +kernel
theorem dX12_at_29 : decode cX12_at 29 = .ok (.iload_n 2, 1) := by decide +kernel
theorem dX12_at_30 : decode cX12_at 30 = .ok (.iadd, 1) := by decide +kernel
theorem dX12_at_31 : decode cX12_at 31 = .ok (.istore 5, 2) := by decide +kernel
theorem dX12_at_33 : decode cX12_at 33 = .ok (.aload_n 0, 1) := by decide +kernel
theorem dX12_at_34 : decode cX12_at 34 = .ok (.getfield 87, 3) := by decide +kernel
theorem dX12_at_37 : decode cX12_at 37 = .ok (.iload 5, 2) := by decide +kernel
theorem dX12_at_39 : decode cX12_at 39 = .ok (.iaload, 1) := by decide +kernel
theorem dX12_at_40 : decode cX12_at 40 = .ok (.iconst 1, 1) := by decide +kernel
theorem dX12_at_41 : decode cX12_at 41 = .ok (.if_icmp .ne 26, 3) := by decide +kernel
theorem dX12_at_44 : decode cX12_at 44 = .ok (.aload_n 0, 1) := by decide +kernel
theorem dX12_at_45 : decode cX12_at 45 = .ok (.getfield 84, 3) := by decide +kernel
theorem dX12_at_48 : decode cX12_at 48 = .ok (.iload 5, 2) := by decide +kernel
theorem dX12_at_50 : decode cX12_at 50 = .ok (.iaload, 1) := by decide +kernel
theorem dX12_at_51 : decode cX12_at 51 = .ok (.iconst 5, 1) := by decide +kernel
theorem dX12_at_52 : decode cX12_at 52 = .ok (.if_icmp .eq 19, 3) := by decide +kernel
theorem dX12_at_55 : decode cX12_at 55 = .ok (.aload_n 0, 1) := by decide +kernel
theorem dX12_at_56 : decode cX12_at 56 = .ok (.getfield 84, 3) := by decide +kernel
theorem dX12_at_59 : decode cX12_at 59 = .ok (.iload 5, 2) := by decide +kernel
theorem dX12_at_61 : decode cX12_at 61 = .ok (.iaload, 1) := by decide +kernel
theorem dX12_at_62 : decode cX12_at 62 = .ok (.bipush 6, 2) := by decide +kernel
theorem dX12_at_64 : decode cX12_at 64 = .ok (.if_icmp .eq 7, 3) := by decide +kernel
theorem dX12_at_67 : decode cX12_at 67 = .ok (.ldc2_w 259, 3) := by decide +kernel
theorem dX12_at_70 : decode cX12_at 70 = .ok (.lreturn, 1) := by decide +kernel
theorem dX12_at_71 : decode cX12_at 71 = .ok (.aload_n 0, 1) := by decide +kernel
theorem dX12_at_72 : decode cX12_at 72 = .ok (.getfield 93, 3) := by decide +kernel
theorem dX12_at_75 : decode cX12_at 75 = .ok (.iload 5, 2) := by decide +kernel
theorem dX12_at_77 : decode cX12_at 77 = .ok (.baload, 1) := by decide +kernel
theorem dX12_at_78 : decode cX12_at 78 = .ok (.ifCond .eq 13, 3) := by decide +kernel
theorem dX12_at_81 : decode cX12_at 81 = .ok (.aload_n 0, 1) := by decide +kernel
theorem dX12_at_82 : decode cX12_at 82 = .ok (.getfield 96, 3) := by decide +kernel
theorem dX12_at_85 : decode cX12_at 85 = .ok (.iload 5, 2) := by decide +kernel
theorem dX12_at_87 : decode cX12_at 87 = .ok (.iaload, 1) := by decide +kernel
theorem dX12_at_88 : decode cX12_at 88 = .ok (.ifCond .ne 28, 3) := by decide +kernel
theorem dX12_at_91 : decode cX12_at 91 = .ok (.aload_n 0, 1) := by decide +kernel
theorem dX12_at_92 : decode cX12_at 92 = .ok (.aload_n 0, 1) := by decide +kernel
theorem dX12_at_93 : decode cX12_at 93 = .ok (.getfield 93, 3) := by decide +kernel
theorem dX12_at_96 : decode cX12_at 96 = .ok (.iload 5, 2) := by decide +kernel
theorem dX12_at_98 : decode cX12_at 98 = .ok (.baload, 1) := by decide +kernel
theorem dX12_at_99 : decode cX12_at 99 = .ok (.ifCond .ne 7, 3) := by decide +kernel
theorem dX12_at_102 : decode cX12_at 102 = .ok (.iconst 1, 1) := by decide +kernel
theorem dX12_at_103 : decode cX12_at 103 = .ok (.goto 5, 3) := by decide +kernel
theorem dX12_at_106 : decode cX12_at 106 = .ok (.bipush 6, 2) := by decide +kernel
theorem dX12_at_108 : decode cX12_at 108 = .ok (.invokevirtual 131, 3) := by decide +kernel
theorem dX12_at_111 : decode cX12_at 111 = .ok (.pop, 1) := by decide +kernel
theorem dX12_at_112 : decode cX12_at 112 = .ok (.ldc2_w 259, 3) := by decide +kernel
theorem dX12_at_115 : decode cX12_at 115 = .ok (.lreturn, 1) := by decide +kernel
theorem dX12_at_116 : decode cX12_at 116 = .ok (.lload_n 3, 1) := by decide +kernel
theorem dX12_at_117 : decode cX12_at 117 = .ok (.invokestatic 251, 3) := by decide +kernel
theorem dX12_at_120 : decode cX12_at 120 = .ok (.dstore 6, 2) := by decide +kernel
theorem dX12_at_122 : decode cX12_at 122 = .ok (.dload 6, 2) := by decide +kernel
theorem dX12_at_124 : decode cX12_at 124 = .ok (.invokestatic 298, 3) := by decide +kernel
theorem dX12_at_127 : decode cX12_at 127 = .ok (.dstore 8, 2) := by decide +kernel
theorem dX12_at_129 : decode cX12_at 129 = .ok (.dload 6, 2) := by decide +kernel
theorem dX12_at_131 : decode cX12_at 131 = .ok (.dload 8, 2) := by decide +kernel
theorem dX12_at_133 : decode cX12_at 133 = .ok (.dsub, 1) := by decide +kernel
theorem dX12_at_134 : decode cX12_at 134 = .ok (.dstore 10, 2) := by decide +kernel
theorem dX12_at_136 : decode cX12_at 136 = .ok (.dload 8, 2) := by decide +kernel
theorem dX12_at_138 : decode cX12_at 138 = .ok (.d2l, 1) := by decide +kernel
theorem dX12_at_139 : decode cX12_at 139 = .ok (.aload_n 0, 1) := by decide +kernel
theorem dX12_at_140 : decode cX12_at 140 = .ok (.getfield 96, 3) := by decide +kernel
theorem dX12_at_143 : decode cX12_at 143 = .ok (.iload 5, 2) := by decide +kernel
theorem dX12_at_145 : decode cX12_at 145 = .ok (.iaload, 1) := by decide +kernel
theorem dX12_at_146 : decode cX12_at 146 = .ok (.i2l, 1) := by decide +kernel
theorem dX12_at_147 : decode cX12_at 147 = .ok (.lrem, 1) := by decide +kernel
theorem dX12_at_148 : decode cX12_at 148 = .ok (.lstore 12, 2) := by decide +kernel
theorem dX12_at_150 : decode cX12_at 150 = .ok (.lload 12, 2) := by decide +kernel
theorem dX12_at_152 : decode cX12_at 152 = .ok (.lconst 0, 1) := by decide +kernel
theorem dX12_at_153 : decode cX12_at 153 = .ok (.lcmp, 1) := by decide +kernel
theorem dX12_at_154 : decode cX12_at 154 = .ok (.ifCond .ge 17, 3) := by decide +kernel
theorem dX12_at_157 : decode cX12_at 157 = .ok (.lload 12, 2) := by decide +kernel
theorem dX12_at_159 : decode cX12_at 159 = .ok (.aload_n 0, 1) := by decide +kernel
theorem dX12_at_160 : decode cX12_at 160 = .ok (.getfield 96, 3) := by decide +kernel
theorem dX12_at_163 : decode cX12_at 163 = .ok (.iload 5, 2) := by decide +kernel
theorem dX12_at_165 : decode cX12_at 165 = .ok (.iaload, 1) := by decide +kernel
theorem dX12_at_166 : decode cX12_at 166 = .ok (.i2l, 1) := by decide +kernel
theorem dX12_at_167 : decode cX12_at 167 = .ok (.ladd, 1) := by decide +kernel
theorem dX12_at_168 : decode cX12_at 168 = .ok (.goto 5, 3) := by decide +kernel
theorem dX12_at_171 : decode cX12_at 171 = .ok (.lload 12, 2) := by decide +kernel
theorem dX12_at_173 : decode cX12_at 173 = .ok (.l2i, 1) := by decide +kernel
theorem dX12_at_174 : decode cX12_at 174 = .ok (.istore 14, 2) := by decide +kernel
theorem dX12_at_176 : decode cX12_at 176 = .ok (.aload_n 0, 1) := by decide +kernel
theorem dX12_at_177 : decode cX12_at 177 = .ok (.getfield 106, 3) := by decide +kernel
theorem dX12_at_180 : decode cX12_at 180 = .ok (.sipush 900, 3) := by decide +kernel
theorem dX12_at_183 : decode cX12_at 183 = .ok (.iload 5, 2) := by decide +kernel
theorem dX12_at_185 : decode cX12_at 185 = .ok (.imul, 1) := by decide +kernel
theorem dX12_at_186 : decode cX12_at 186 = .ok (.iload 14, 2) := by decide +kernel
theorem dX12_at_188 : decode cX12_at 188 = .ok (.iadd, 1) := by decide +kernel
theorem dX12_at_189 : decode cX12_at 189 = .ok (.laload, 1) := by decide +kernel
theorem dX12_at_190 : decode cX12_at 190 = .ok (.lstore 15, 2) := by decide +kernel
theorem dX12_at_192 : decode cX12_at 192 = .ok (.lload 15, 2) := by decide +kernel
theorem dX12_at_194 : decode cX12_at 194 = .ok (.invokestatic 291, 3) := by decide +kernel
theorem dX12_at_197 : decode cX12_at 197 = .ok (.ifCond .ne 7, 3) := by decide +kernel
theorem dX12_at_200 : decode cX12_at 200 = .ok (.ldc2_w 259, 3) := by decide +kernel
theorem dX12_at_203 : decode cX12_at 203 = .ok (.lreturn, 1) := by decide +kernel
theorem dX12_at_204 : decode cX12_at 204 = .ok (.dload 10, 2) := by decide +kernel
theorem dX12_at_206 : decode cX12_at 206 = .ok (.dconst 0, 1) := by decide +kernel
theorem dX12_at_207 : decode cX12_at 207 = .ok (.dcmp .l, 1) := by decide +kernel
theorem dX12_at_208 : decode cX12_at 208 = .ok (.ifCond .ne 6, 3) := by decide +kernel
theorem dX12_at_211 : decode cX12_at 211 = .ok (.lload 15, 2) := by decide +kernel
theorem dX12_at_213 : decode cX12_at 213 = .ok (.lreturn, 1) := by decide +kernel
theorem dX12_at_214 : decode cX12_at 214 = .ok (.aload_n 0, 1) := by decide +kernel
theorem dX12_at_215 : decode cX12_at 215 = .ok (.getfield 106, 3) := by decide +kernel
theorem dX12_at_218 : decode cX12_at 218 = .ok (.sipush 900, 3) := by decide +kernel
theorem dX12_at_221 : decode cX12_at 221 = .ok (.iload 5, 2) := by decide +kernel
theorem dX12_at_223 : decode cX12_at 223 = .ok (.imul, 1) := by decide +kernel
theorem dX12_at_224 : decode cX12_at 224 = .ok (.iload 14, 2) := by decide +kernel
theorem dX12_at_226 : decode cX12_at 226 = .ok (.iconst 1, 1) := by decide +kernel
theorem dX12_at_227 : decode cX12_at 227 = .ok (.iadd, 1) := by decide +kernel
theorem dX12_at_228 : decode cX12_at 228 = .ok (.aload_n 0, 1) := by decide +kernel
theorem dX12_at_229 : decode cX12_at 229 = .ok (.getfield 96, 3) := by decide +kernel
theorem dX12_at_232 : decode cX12_at 232 = .ok (.iload 5, 2) := by decide +kernel
theorem dX12_at_234 : decode cX12_at 234 = .ok (.iaload, 1) := by decide +kernel
theorem dX12_at_235 : decode cX12_at 235 = .ok (.if_icmp .ne 7, 3) := by decide +kernel
theorem dX12_at_238 : decode cX12_at 238 = .ok (.iconst 0, 1) := by decide +kernel
theorem dX12_at_239 : decode cX12_at 239 = .ok (.goto 7, 3) := by decide +kernel
theorem dX12_at_242 : decode cX12_at 242 = .ok (.iload 14, 2) := by decide +kernel
theorem dX12_at_244 : decode cX12_at 244 = .ok (.iconst 1, 1) := by decide +kernel
theorem dX12_at_245 : decode cX12_at 245 = .ok (.iadd, 1) := by decide +kernel
theorem dX12_at_246 : decode cX12_at 246 = .ok (.iadd, 1) := by decide +kernel
theorem dX12_at_247 : decode cX12_at 247 = .ok (.laload, 1) := by decide +kernel
theorem dX12_at_248 : decode cX12_at 248 = .ok (.lstore 17, 2) := by decide +kernel
theorem dX12_at_250 : decode cX12_at 250 = .ok (.lload 17, 2) := by decide +kernel
theorem dX12_at_252 : decode cX12_at 252 = .ok (.invokestatic 291, 3) := by decide +kernel
theorem dX12_at_255 : decode cX12_at 255 = .ok (.ifCond .ne 7, 3) := by decide +kernel
theorem dX12_at_258 : decode cX12_at 258 = .ok (.ldc2_w 259, 3) := by decide +kernel
theorem dX12_at_261 : decode cX12_at 261 = .ok (.lreturn, 1) := by decide +kernel
theorem dX12_at_262 : decode cX12_at 262 = .ok (.lload 15, 2) := by decide +kernel
theorem dX12_at_264 : decode cX12_at 264 = .ok (.invokestatic 251, 3) := by decide +kernel
theorem dX12_at_267 : decode cX12_at 267 = .ok (.dstore 19, 2) := by decide +kernel
theorem dX12_at_269 : decode cX12_at 269 = .ok (.dload 19, 2) := by decide +kernel
theorem dX12_at_271 : decode cX12_at 271 = .ok (.lload 17, 2) := by decide +kernel
theorem dX12_at_273 : decode cX12_at 273 = .ok (.invokestatic 251, 3) := by decide +kernel
theorem dX12_at_276 : decode cX12_at 276 = .ok (.dload 19, 2) := by decide +kernel
theorem dX12_at_278 : decode cX12_at 278 = .ok (.dsub, 1) := by decide +kernel
theorem dX12_at_279 : decode cX12_at 279 = .ok (.dload 10, 2) := by decide +kernel
theorem dX12_at_281 : decode cX12_at 281 = .ok (.dmul, 1) := by decide +kernel
theorem dX12_at_282 : decode cX12_at 282 = .ok (.dadd, 1) := by decide +kernel
theorem dX12_at_283 : decode cX12_at 283 = .ok (.invokestatic 241, 3) := by decide +kernel
theorem dX12_at_286 : decode cX12_at 286 = .ok (.lreturn, 1) := by decide +kernel
def fn_X12_at_b246 (h : mz_H) (d10 : UInt64) (j15 : Int64) (s0 : (Option Nat)) (s1 : Int32) (s2 : Int32) : mz_Res Int64 :=
  mz_op (mz_aJ h s0 (s1 + s2)) fun v1 =>
  mz_call (fn_X12_isFinite h v1) fun v2 h =>
  if v2 = 0 then
    mz_ret 9221120237041090560 h
  else
    mz_chk (!vn_snl2d j15) <|
    mz_op (some (Int64.toUInt64 j15)) fun v3 =>
    mz_chk (!vn_snl2d v1) <|
    mz_chk (mz_n64 (FP.dsub (Int64.toUInt64 v1) v3)) <|
    mz_chk (mz_n64 (FP.dmul (FP.dsub (Int64.toUInt64 v1) v3) d10)) <|
    mz_chk (mz_n64 (FP.dadd v3 (FP.dmul (FP.dsub (Int64.toUInt64 v1) v3) d10))) <|
    mz_call (fn_J_d2l h (FP.dadd v3 (FP.dmul (FP.dsub (Int64.toUInt64 v1) v3) d10))) fun v4 h =>
    mz_ret v4 h
set_option maxHeartbeats 4000000 in
set_option maxRecDepth 100000 in
theorem pf_X12_at_b246 (r : Int64) (Y : mz_Y p g RX12 cX12_at 21 (some .long) "at" (mz_AF h0) s m args meth c) (h : mz_H) (d10 : UInt64) (j15 : Int64) (s0 : (Option Nat)) (s1 : Int32) (s2 : Int32) (dc ds : Nat) (hr : fn_X12_at_b246 h d10 j15 s0 s1 s2 = some (r, hf, dc, ds)) : mz_Go l g p e s m args below meth c 2 44 DC DS h0 (some (Value.long r)) hf 21 246 [(10, true, .double d10), (15, true, .long j15)] [.int s2, .int s1, va_rf s0] h dc ds := by
  unfold fn_X12_at_b246 at hr
  intro H locs cells slots ls hH hS hl hc hs
  have X := Y.1
  refine lv_iadd X.1 X.2.1 dX12_at_246 ?_
  refine mz_lald X hH dX12_at_247 hr (fun v1 hr => ?_)
  refine mz_lstore X [(17, true, .long v1), (10, true, .double d10), (15, true, .long j15)] dX12_at_248 hl (by decide) rfl (fun ls hl => ?_)
  refine lv_lload X.1 X.2.1 dX12_at_250 (mz_at hl 0 rfl) ?_
  refine mz_kS Value.int X hH hS hl.1.1 [.long v1] [] hr (ct_X12_isFinite l g h v1) mb_RX12_291 im_X12_isFinite rfl (Nat.le_of_ble_eq_true rfl) ⟨Nat.le_of_ble_eq_true rfl, Nat.le_of_ble_eq_true rfl⟩ hc hs dX12_at_252 rfl (fun v2 h H locs cells slots dc ds hr hH hS hc hs => ?_)
  refine mz_if_ne X 262 dX12_at_255 (by decide) hr (fun hr => ?_) (fun hr => ?_)
  · refine lv_lload X.1 X.2.1 dX12_at_262 (mz_at hl 2 rfl) ?_
    refine mz_l2dN X hl.1.1 ⟨mz_tb 1305 (by decide +kernel) rfl, mz_tb 1307 (by decide +kernel) rfl, mz_tb 1306 (by decide +kernel) rfl, mz_tb 55 (by decide +kernel) rfl⟩ (Nat.le_of_ble_eq_true rfl) ⟨Nat.le_of_ble_eq_true rfl, Nat.le_of_ble_eq_true rfl⟩ dX12_at_264 hr (fun hr => ?_)
    refine mz_topd hr (fun v3 hv3 hr => ?_)
    refine mz_dstore X [(19, true, .double v3), (17, true, .long v1), (10, true, .double d10), (15, true, .long j15)] dX12_at_267 hl (by decide) rfl (fun ls hl => ?_)
    refine lv_dload X.1 X.2.1 dX12_at_269 (mz_at hl 0 rfl) ?_
    refine lv_lload X.1 X.2.1 dX12_at_271 (mz_at hl 1 rfl) ?_
    refine mz_l2dN X hl.1.1 ⟨mz_tb 1305 (by decide +kernel) rfl, mz_tb 1307 (by decide +kernel) rfl, mz_tb 1306 (by decide +kernel) rfl, mz_tb 55 (by decide +kernel) rfl⟩ (Nat.le_of_ble_eq_true rfl) ⟨Nat.le_of_ble_eq_true rfl, Nat.le_of_ble_eq_true rfl⟩ dX12_at_273 hr (fun hr => ?_)
    refine lv_dload X.1 X.2.1 dX12_at_276 (mz_at hl 0 rfl) ?_
    refine mz_dsub X dX12_at_278 hr (fun hr => ?_)
    refine lv_dload X.1 X.2.1 dX12_at_279 (mz_at hl 2 rfl) ?_
    refine mz_dmul X dX12_at_281 hr (fun hr => ?_)
    refine mz_dadd X dX12_at_282 hr (fun hr => ?_)
    refine mz_kS Value.long X hH hS hl.1.1 [.double (FP.dadd v3 (FP.dmul (FP.dsub (Int64.toUInt64 v1) v3) d10))] [] hr (ct_J_d2l l g h (FP.dadd v3 (FP.dmul (FP.dsub (Int64.toUInt64 v1) v3) d10))) mb_RX12_241 im_J_d2l rfl (Nat.le_of_ble_eq_true rfl) ⟨Nat.le_of_ble_eq_true rfl, Nat.le_of_ble_eq_true rfl⟩ hc hs dX12_at_283 rfl (fun v4 h H locs cells slots dc ds hr hH hS hc hs => ?_)
    exact mz_lret Y dX12_at_286 hH hS hc hs hr
  · refine mz_ldc2 (v := 9221120237041090560) X (mz_tb 1321 (by decide +kernel) rfl) dX12_at_258 ?_
    exact mz_lret Y dX12_at_261 hH hS hc hs hr
def fn_X12_at_b173 (h : mz_H) (a0 : (Option Nat)) (x5 : Int32) (d10 : UInt64) (s0 : Int64) : mz_Res Int64 :=
  mz_op (some ((s0 : Int64).toInt32)) fun v1 =>
  mz_op (mz_fR h a0 11 43) fun v2 =>
  mz_op (mz_aJ h v2 ((900 * x5) + v1)) fun v3 =>
  mz_call (fn_X12_isFinite h v3) fun v4 h =>
  if v4 = 0 then
    mz_ret 9221120237041090560 h
  else
    if (Op.cmpValue (FP.dcmp d10 FP.dconst0) .l) = 0 then
      mz_ret v3 h
    else
      mz_op (mz_fR h a0 11 43) fun v5 =>
      mz_op (mz_fR h a0 11 40) fun v6 =>
      mz_op (mz_aI h v6 0 x5) fun v7 =>
      if (v1 + 1) = v7 then
        fn_X12_at_b246 h d10 v3 v5 (900 * x5) 0
      else
        fn_X12_at_b246 h d10 v3 v5 (900 * x5) (v1 + 1)
set_option maxHeartbeats 4000000 in
set_option maxRecDepth 100000 in
theorem pf_X12_at_b173 (r : Int64) (Y : mz_Y p g RX12 cX12_at 21 (some .long) "at" (mz_AF h0) s m args meth c) (h : mz_H) (a0 : (Option Nat)) (x5 : Int32) (d10 : UInt64) (s0 : Int64) (dc ds : Nat) (hr : fn_X12_at_b173 h a0 x5 d10 s0 = some (r, hf, dc, ds)) : mz_Go l g p e s m args below meth c 2 44 DC DS h0 (some (Value.long r)) hf 21 173 [(0, false, va_rf a0), (5, false, .int x5), (10, true, .double d10)] [.long s0] h dc ds := by
  unfold fn_X12_at_b173 at hr
  intro H locs cells slots ls hH hS hl hc hs
  have X := Y.1
  refine lv_l2i (v := ((s0 : Int64).toInt32)) X.1 X.2.1 dX12_at_173 rfl ?_
  refine mz_topi hr (fun v1 hv1 hr => ?_)
  refine mz_istore X [(14, false, .int v1), (0, false, va_rf a0), (5, false, .int x5), (10, true, .double d10)] dX12_at_174 hl (by decide) rfl (fun ls hl => ?_)
  refine mz_aload_n X dX12_at_176 rfl (mz_at hl 1 rfl) ?_
  refine mz_getR X hH fl_RX12_106 dX12_at_177 hr (fun v2 hr => ?_)
  refine lv_sipush (v := 900) X.1 X.2.1 dX12_at_180 (by decide) ?_
  refine lv_iload X.1 X.2.1 dX12_at_183 (mz_at hl 2 rfl) ?_
  refine lv_imul X.1 X.2.1 dX12_at_185 ?_
  refine lv_iload X.1 X.2.1 dX12_at_186 (mz_at hl 0 rfl) ?_
  refine lv_iadd X.1 X.2.1 dX12_at_188 ?_
  refine mz_lald X hH dX12_at_189 hr (fun v3 hr => ?_)
  refine mz_lstore X [(15, true, .long v3), (14, false, .int v1), (0, false, va_rf a0), (5, false, .int x5), (10, true, .double d10)] dX12_at_190 hl (by decide) rfl (fun ls hl => ?_)
  refine lv_lload X.1 X.2.1 dX12_at_192 (mz_at hl 0 rfl) ?_
  refine mz_kS Value.int X hH hS hl.1.1 [.long v3] [] hr (ct_X12_isFinite l g h v3) mb_RX12_291 im_X12_isFinite rfl (Nat.le_of_ble_eq_true rfl) ⟨Nat.le_of_ble_eq_true rfl, Nat.le_of_ble_eq_true rfl⟩ hc hs dX12_at_194 rfl (fun v4 h H locs cells slots dc ds hr hH hS hc hs => ?_)
  refine mz_if_ne X 204 dX12_at_197 (by decide) hr (fun hr => ?_) (fun hr => ?_)
  · refine lv_dload X.1 X.2.1 dX12_at_204 (mz_at hl 4 rfl) ?_
    refine lv_dconst0 X.1 X.2.1 dX12_at_206 ?_
    refine lv_dcmp X.1 X.2.1 dX12_at_207 ?_
    refine mz_if_ne X 214 dX12_at_208 (by decide) hr (fun hr => ?_) (fun hr => ?_)
    · refine mz_aload_n X dX12_at_214 rfl (mz_at hl 2 rfl) ?_
      refine mz_getR X hH fl_RX12_106 dX12_at_215 hr (fun v5 hr => ?_)
      refine lv_sipush (v := 900) X.1 X.2.1 dX12_at_218 (by decide) ?_
      refine lv_iload X.1 X.2.1 dX12_at_221 (mz_at hl 3 rfl) ?_
      refine lv_imul X.1 X.2.1 dX12_at_223 ?_
      refine lv_iload X.1 X.2.1 dX12_at_224 (mz_at hl 1 rfl) ?_
      refine lv_iconst (v := 1) X.1 X.2.1 dX12_at_226 (by decide) ?_
      refine lv_iadd X.1 X.2.1 dX12_at_227 ?_
      refine mz_aload_n X dX12_at_228 rfl (mz_at hl 2 rfl) ?_
      refine mz_getR X hH fl_RX12_96 dX12_at_229 hr (fun v6 hr => ?_)
      refine lv_iload X.1 X.2.1 dX12_at_232 (mz_at hl 3 rfl) ?_
      refine mz_iald X hH dX12_at_234 hr (fun v7 hr => ?_)
      refine mz_icmp_ne X 242 dX12_at_235 (by decide) hr (fun hr => ?_) (fun hr => ?_)
      · refine lv_iload X.1 X.2.1 dX12_at_242 (mz_at hl 1 rfl) ?_
        refine lv_iconst (v := 1) X.1 X.2.1 dX12_at_244 (by decide) ?_
        refine lv_iadd X.1 X.2.1 dX12_at_245 ?_
        exact pf_X12_at_b246 r Y h d10 v3 v5 (900 * x5) (v1 + 1) _ _ hr H locs cells slots ls hH hS (mz_sub hl [4, 0] rfl) hc hs
      · refine lv_iconst (v := 0) X.1 X.2.1 dX12_at_238 (by decide) ?_
        refine lv_goto (tgt := 246) X.1 X.2.1 dX12_at_239 (by decide) ?_
        exact pf_X12_at_b246 r Y h d10 v3 v5 (900 * x5) 0 _ _ hr H locs cells slots ls hH hS (mz_sub hl [4, 0] rfl) hc hs
    · refine lv_lload X.1 X.2.1 dX12_at_211 (mz_at hl 0 rfl) ?_
      exact mz_lret Y dX12_at_213 hH hS hc hs hr
  · refine mz_ldc2 (v := 9221120237041090560) X (mz_tb 1321 (by decide +kernel) rfl) dX12_at_200 ?_
    exact mz_lret Y dX12_at_203 hH hS hc hs hr
def fn_X12_at_b108 (h : mz_H) (s0 : (Option Nat)) (s1 : Int32) : mz_Res Int64 :=
  mz_chk (mz_is h s0 11) <| mz_call (fn_X12_fails h s0 s1) fun v1 h =>
  mz_ret 9221120237041090560 h
set_option maxHeartbeats 4000000 in
set_option maxRecDepth 100000 in
theorem pf_X12_at_b108 (r : Int64) (Y : mz_Y p g RX12 cX12_at 21 (some .long) "at" (mz_AF h0) s m args meth c) (h : mz_H) (s0 : (Option Nat)) (s1 : Int32) (dc ds : Nat) (hr : fn_X12_at_b108 h s0 s1 = some (r, hf, dc, ds)) : mz_Go l g p e s m args below meth c 2 44 DC DS h0 (some (Value.long r)) hf 21 108 [] [.int s1, va_rf s0] h dc ds := by
  unfold fn_X12_at_b108 at hr
  intro H locs cells slots ls hH hS hl hc hs
  have X := Y.1
  refine mz_kV Value.int X hH hS hl.1.1 [.int s1] [] hr (ct_X12_fails l g h s0 s1) mb_RX12_131 rfl im_X12_fails rfl (Nat.le_of_ble_eq_true rfl) ⟨Nat.le_of_ble_eq_true rfl, Nat.le_of_ble_eq_true rfl⟩ hc hs dX12_at_108 rfl (fun v1 h H locs cells slots dc ds hr hH hS hc hs => ?_)
  refine lv_pop X.1 X.2.1 dX12_at_111 rfl ?_
  refine mz_ldc2 (v := 9221120237041090560) X (mz_tb 1321 (by decide +kernel) rfl) dX12_at_112 ?_
  exact mz_lret Y dX12_at_115 hH hS hc hs hr
def fn_X12_at_b91 (h : mz_H) (a0 : (Option Nat)) (x5 : Int32) : mz_Res Int64 :=
  mz_op (mz_fR h a0 11 39) fun v1 =>
  mz_op (mz_aI h v1 2 x5) fun v2 =>
  if v2 = 0 then
    fn_X12_at_b108 h a0 1
  else
    fn_X12_at_b108 h a0 6
set_option maxHeartbeats 4000000 in
set_option maxRecDepth 100000 in
theorem pf_X12_at_b91 (r : Int64) (Y : mz_Y p g RX12 cX12_at 21 (some .long) "at" (mz_AF h0) s m args meth c) (h : mz_H) (a0 : (Option Nat)) (x5 : Int32) (dc ds : Nat) (hr : fn_X12_at_b91 h a0 x5 = some (r, hf, dc, ds)) : mz_Go l g p e s m args below meth c 2 44 DC DS h0 (some (Value.long r)) hf 21 91 [(0, false, va_rf a0), (5, false, .int x5)] [] h dc ds := by
  unfold fn_X12_at_b91 at hr
  intro H locs cells slots ls hH hS hl hc hs
  have X := Y.1
  refine mz_aload_n X dX12_at_91 rfl (mz_at hl 0 rfl) ?_
  refine mz_aload_n X dX12_at_92 rfl (mz_at hl 0 rfl) ?_
  refine mz_getR X hH fl_RX12_93 dX12_at_93 hr (fun v1 hr => ?_)
  refine lv_iload X.1 X.2.1 dX12_at_96 (mz_at hl 1 rfl) ?_
  refine mz_zald X hH dX12_at_98 hr (fun v2 hr => ?_)
  refine mz_if_ne X 106 dX12_at_99 (by decide) hr (fun hr => ?_) (fun hr => ?_)
  · refine lv_bipush (v := 6) X.1 X.2.1 dX12_at_106 (by decide) ?_
    exact pf_X12_at_b108 r Y h a0 6 _ _ hr H locs cells slots ls hH hS (mz_sub hl [] rfl) hc hs
  · refine lv_iconst (v := 1) X.1 X.2.1 dX12_at_102 (by decide) ?_
    refine lv_goto (tgt := 108) X.1 X.2.1 dX12_at_103 (by decide) ?_
    exact pf_X12_at_b108 r Y h a0 1 _ _ hr H locs cells slots ls hH hS (mz_sub hl [] rfl) hc hs
def fn_X12_at_b71 (h : mz_H) (a0 : (Option Nat)) (j3 : Int64) (x5 : Int32) : mz_Res Int64 :=
  mz_op (mz_fR h a0 11 39) fun v1 =>
  mz_op (mz_aI h v1 2 x5) fun v2 =>
  if v2 = 0 then
    fn_X12_at_b91 h a0 x5
  else
    mz_op (mz_fR h a0 11 40) fun v3 =>
    mz_op (mz_aI h v3 0 x5) fun v4 =>
    if v4 = 0 then
      fn_X12_at_b91 h a0 x5
    else
      mz_chk (!vn_snl2d j3) <|
      mz_op (some (Int64.toUInt64 j3)) fun v5 =>
      mz_call (fn_X12_below_ h v5) fun v6 h =>
      mz_chk (mz_n64 (FP.dsub v5 v6)) <|
      mz_op (some (FP.dsub v5 v6)) fun v7 =>
      mz_op (mz_fR h a0 11 40) fun v8 =>
      mz_op (mz_aI h v8 0 x5) fun v9 =>
      mz_chk (decide (¬ ((v9 : Int32).toInt64) = 0)) <|
      mz_op (some ((FP.d2l v6) - (FP.d2l v6) / ((v9 : Int32).toInt64) * ((v9 : Int32).toInt64))) fun v10 =>
      if 0 ≤ (lg_cmp v10 0) then
        fn_X12_at_b173 h a0 x5 v7 v10
      else
        mz_op (mz_fR h a0 11 40) fun v11 =>
        mz_op (mz_aI h v11 0 x5) fun v12 =>
        fn_X12_at_b173 h a0 x5 v7 (v10 + ((v12 : Int32).toInt64))
set_option maxHeartbeats 4000000 in
set_option maxRecDepth 100000 in
theorem pf_X12_at_b71 (r : Int64) (Y : mz_Y p g RX12 cX12_at 21 (some .long) "at" (mz_AF h0) s m args meth c) (h : mz_H) (a0 : (Option Nat)) (j3 : Int64) (x5 : Int32) (dc ds : Nat) (hr : fn_X12_at_b71 h a0 j3 x5 = some (r, hf, dc, ds)) : mz_Go l g p e s m args below meth c 2 44 DC DS h0 (some (Value.long r)) hf 21 71 [(0, false, va_rf a0), (3, true, .long j3), (5, false, .int x5)] [] h dc ds := by
  unfold fn_X12_at_b71 at hr
  intro H locs cells slots ls hH hS hl hc hs
  have X := Y.1
  refine mz_aload_n X dX12_at_71 rfl (mz_at hl 0 rfl) ?_
  refine mz_getR X hH fl_RX12_93 dX12_at_72 hr (fun v1 hr => ?_)
  refine lv_iload X.1 X.2.1 dX12_at_75 (mz_at hl 2 rfl) ?_
  refine mz_zald X hH dX12_at_77 hr (fun v2 hr => ?_)
  refine mz_if_eq X 91 dX12_at_78 (by decide) hr (fun hr => ?_) (fun hr => ?_)
  · exact pf_X12_at_b91 r Y h a0 x5 _ _ hr H locs cells slots ls hH hS (mz_sub hl [0, 2] rfl) hc hs
  · refine mz_aload_n X dX12_at_81 rfl (mz_at hl 0 rfl) ?_
    refine mz_getR X hH fl_RX12_96 dX12_at_82 hr (fun v3 hr => ?_)
    refine lv_iload X.1 X.2.1 dX12_at_85 (mz_at hl 2 rfl) ?_
    refine mz_iald X hH dX12_at_87 hr (fun v4 hr => ?_)
    refine mz_if_ne X 116 dX12_at_88 (by decide) hr (fun hr => ?_) (fun hr => ?_)
    · refine lv_lload_n X.1 X.2.1 dX12_at_116 rfl (mz_at hl 1 rfl) ?_
      refine mz_l2dN X hl.1.1 ⟨mz_tb 1305 (by decide +kernel) rfl, mz_tb 1307 (by decide +kernel) rfl, mz_tb 1306 (by decide +kernel) rfl, mz_tb 55 (by decide +kernel) rfl⟩ (Nat.le_of_ble_eq_true rfl) ⟨Nat.le_of_ble_eq_true rfl, Nat.le_of_ble_eq_true rfl⟩ dX12_at_117 hr (fun hr => ?_)
      refine mz_topd hr (fun v5 hv5 hr => ?_)
      refine mz_dstore X [(6, true, .double v5), (0, false, va_rf a0), (3, true, .long j3), (5, false, .int x5)] dX12_at_120 hl (by decide) rfl (fun ls hl => ?_)
      refine lv_dload X.1 X.2.1 dX12_at_122 (mz_at hl 0 rfl) ?_
      refine mz_kS Value.double X hH hS hl.1.1 [.double v5] [] hr (ct_X12_below_ l g h v5) mb_RX12_298 im_X12_below_ rfl (Nat.le_of_ble_eq_true rfl) ⟨Nat.le_of_ble_eq_true rfl, Nat.le_of_ble_eq_true rfl⟩ hc hs dX12_at_124 rfl (fun v6 h H locs cells slots dc ds hr hH hS hc hs => ?_)
      refine mz_dstore X [(8, true, .double v6), (6, true, .double v5), (0, false, va_rf a0), (3, true, .long j3), (5, false, .int x5)] dX12_at_127 hl (by decide) rfl (fun ls hl => ?_)
      refine lv_dload X.1 X.2.1 dX12_at_129 (mz_at hl 1 rfl) ?_
      refine lv_dload X.1 X.2.1 dX12_at_131 (mz_at hl 0 rfl) ?_
      refine mz_dsub X dX12_at_133 hr (fun hr => ?_)
      refine mz_topd hr (fun v7 hv7 hr => ?_)
      refine mz_dstore X [(10, true, .double v7), (8, true, .double v6), (6, true, .double v5), (0, false, va_rf a0), (3, true, .long j3), (5, false, .int x5)] dX12_at_134 hl (by decide) rfl (fun ls hl => ?_)
      refine lv_dload X.1 X.2.1 dX12_at_136 (mz_at hl 1 rfl) ?_
      refine lv_d2l X.1 X.2.1 dX12_at_138 ?_
      refine mz_aload_n X dX12_at_139 rfl (mz_at hl 3 rfl) ?_
      refine mz_getR X hH fl_RX12_96 dX12_at_140 hr (fun v8 hr => ?_)
      refine lv_iload X.1 X.2.1 dX12_at_143 (mz_at hl 5 rfl) ?_
      refine mz_iald X hH dX12_at_145 hr (fun v9 hr => ?_)
      refine lv_i2l (v := ((v9 : Int32).toInt64)) X.1 X.2.1 dX12_at_146 rfl ?_
      refine mz_lrem X dX12_at_147 hr (fun hr => ?_)
      refine mz_topl hr (fun v10 hv10 hr => ?_)
      refine mz_lstore X [(12, true, .long v10), (10, true, .double v7), (8, true, .double v6), (6, true, .double v5), (0, false, va_rf a0), (3, true, .long j3), (5, false, .int x5)] dX12_at_148 hl (by decide) rfl (fun ls hl => ?_)
      refine lv_lload X.1 X.2.1 dX12_at_150 (mz_at hl 0 rfl) ?_
      refine lv_lconst (v := 0) X.1 X.2.1 dX12_at_152 (by decide) ?_
      refine W.lcmp X.1 X.2.1 dX12_at_153 ?_
      refine mz_if_ge X 171 dX12_at_154 (by decide) hr (fun hr => ?_) (fun hr => ?_)
      · refine lv_lload X.1 X.2.1 dX12_at_171 (mz_at hl 0 rfl) ?_
        exact pf_X12_at_b173 r Y h a0 x5 v7 v10 _ _ hr H locs cells slots ls hH hS (mz_sub hl [4, 6, 1] rfl) hc hs
      · refine lv_lload X.1 X.2.1 dX12_at_157 (mz_at hl 0 rfl) ?_
        refine mz_aload_n X dX12_at_159 rfl (mz_at hl 4 rfl) ?_
        refine mz_getR X hH fl_RX12_96 dX12_at_160 hr (fun v11 hr => ?_)
        refine lv_iload X.1 X.2.1 dX12_at_163 (mz_at hl 6 rfl) ?_
        refine mz_iald X hH dX12_at_165 hr (fun v12 hr => ?_)
        refine lv_i2l (v := ((v12 : Int32).toInt64)) X.1 X.2.1 dX12_at_166 rfl ?_
        refine lv_ladd X.1 X.2.1 dX12_at_167 ?_
        refine lv_goto (tgt := 173) X.1 X.2.1 dX12_at_168 (by decide) ?_
        exact pf_X12_at_b173 r Y h a0 x5 v7 (v10 + ((v12 : Int32).toInt64)) _ _ hr H locs cells slots ls hH hS (mz_sub hl [4, 6, 1] rfl) hc hs
    · exact pf_X12_at_b91 r Y h a0 x5 _ _ hr H locs cells slots ls hH hS (mz_sub hl [0, 2] rfl) hc hs
def fn_X12_at (h : mz_H) (a0 : (Option Nat)) (x1 : Int32) (x2 : Int32) (j3 : Int64) : mz_Res Int64 :=
  mz_op (mz_pF h a0 11 0 (Value.int 0)) fun h =>
  mz_chk (mz_is h a0 11) <| mz_call (fn_X12_isSlot h a0 x1 x2) fun v1 h =>
  if v1 = 0 then
    mz_ret 9221120237041090560 h
  else
    mz_call (fn_X12_isFinite h j3) fun v2 h =>
    if v2 = 0 then
      mz_ret 9221120237041090560 h
    else
      mz_op (some ((16 * x1) + x2)) fun v3 =>
      mz_op (mz_fR h a0 11 37) fun v4 =>
      mz_op (mz_aI h v4 0 v3) fun v5 =>
      if v5 = 1 then
        mz_op (mz_fR h a0 11 36) fun v6 =>
        mz_op (mz_aI h v6 0 v3) fun v7 =>
        if v7 = 5 then
          fn_X12_at_b71 h a0 j3 v3
        else
          mz_op (mz_fR h a0 11 36) fun v8 =>
          mz_op (mz_aI h v8 0 v3) fun v9 =>
          if v9 = 6 then
            fn_X12_at_b71 h a0 j3 v3
          else
            mz_ret 9221120237041090560 h
      else
        mz_ret 9221120237041090560 h
set_option maxHeartbeats 4000000 in
set_option maxRecDepth 100000 in
theorem pf_X12_at_b0 (r : Int64) (Y : mz_Y p g RX12 cX12_at 21 (some .long) "at" (mz_AF h0) s m args meth c) (h : mz_H) (a0 : (Option Nat)) (x1 : Int32) (x2 : Int32) (j3 : Int64) (dc ds : Nat) (hr : fn_X12_at h a0 x1 x2 j3 = some (r, hf, dc, ds)) : mz_Go l g p e s m args below meth c 2 44 DC DS h0 (some (Value.long r)) hf 21 0 [(0, false, va_rf a0), (1, false, .int x1), (2, false, .int x2), (3, true, .long j3)] [] h dc ds := by
  unfold fn_X12_at at hr
  intro H locs cells slots ls hH hS hl hc hs
  have X := Y.1
  refine mz_aload_n X dX12_at_0 rfl (mz_at hl 0 rfl) ?_
  refine lv_iconst (v := 0) X.1 X.2.1 dX12_at_1 (by decide) ?_
  refine mz_put X hH hS fp_RX12_125 dX12_at_2 rfl rfl hr (fun h H locs hr hH hS => ?_)
  refine mz_aload_n X dX12_at_5 rfl (mz_at hl 0 rfl) ?_
  refine lv_iload_n X.1 X.2.1 dX12_at_6 rfl (mz_at hl 1 rfl) ?_
  refine lv_iload_n X.1 X.2.1 dX12_at_7 rfl (mz_at hl 2 rfl) ?_
  refine mz_kV Value.int X hH hS hl.1.1 [.int x1, .int x2] [] hr (ct_X12_isSlot l g h a0 x1 x2) mb_RX12_226 rfl im_X12_isSlot rfl (Nat.le_of_ble_eq_true rfl) ⟨Nat.le_of_ble_eq_true rfl, Nat.le_of_ble_eq_true rfl⟩ hc hs dX12_at_8 rfl (fun v1 h H locs cells slots dc ds hr hH hS hc hs => ?_)
  refine mz_if_eq X 21 dX12_at_11 (by decide) hr (fun hr => ?_) (fun hr => ?_)
  · refine mz_ldc2 (v := 9221120237041090560) X (mz_tb 1321 (by decide +kernel) rfl) dX12_at_21 ?_
    exact mz_lret Y dX12_at_24 hH hS hc hs hr
  · refine lv_lload_n X.1 X.2.1 dX12_at_14 rfl (mz_at hl 3 rfl) ?_
    refine mz_kS Value.int X hH hS hl.1.1 [.long j3] [] hr (ct_X12_isFinite l g h j3) mb_RX12_291 im_X12_isFinite rfl (Nat.le_of_ble_eq_true rfl) ⟨Nat.le_of_ble_eq_true rfl, Nat.le_of_ble_eq_true rfl⟩ hc hs dX12_at_15 rfl (fun v2 h H locs cells slots dc ds hr hH hS hc hs => ?_)
    refine mz_if_ne X 25 dX12_at_18 (by decide) hr (fun hr => ?_) (fun hr => ?_)
    · refine lv_bipush (v := 16) X.1 X.2.1 dX12_at_25 (by decide) ?_
      refine lv_iload_n X.1 X.2.1 dX12_at_27 rfl (mz_at hl 1 rfl) ?_
      refine lv_imul X.1 X.2.1 dX12_at_28 ?_
      refine lv_iload_n X.1 X.2.1 dX12_at_29 rfl (mz_at hl 2 rfl) ?_
      refine lv_iadd X.1 X.2.1 dX12_at_30 ?_
      refine mz_topi hr (fun v3 hv3 hr => ?_)
      refine mz_istore X [(5, false, .int v3), (0, false, va_rf a0), (1, false, .int x1), (2, false, .int x2), (3, true, .long j3)] dX12_at_31 hl (by decide) rfl (fun ls hl => ?_)
      refine mz_aload_n X dX12_at_33 rfl (mz_at hl 1 rfl) ?_
      refine mz_getR X hH fl_RX12_87 dX12_at_34 hr (fun v4 hr => ?_)
      refine lv_iload X.1 X.2.1 dX12_at_37 (mz_at hl 0 rfl) ?_
      refine mz_iald X hH dX12_at_39 hr (fun v5 hr => ?_)
      refine lv_iconst (v := 1) X.1 X.2.1 dX12_at_40 (by decide) ?_
      refine mz_icmp_ne X 67 dX12_at_41 (by decide) hr (fun hr => ?_) (fun hr => ?_)
      · refine mz_ldc2 (v := 9221120237041090560) X (mz_tb 1321 (by decide +kernel) rfl) dX12_at_67 ?_
        exact mz_lret Y dX12_at_70 hH hS hc hs hr
      · refine mz_aload_n X dX12_at_44 rfl (mz_at hl 1 rfl) ?_
        refine mz_getR X hH fl_RX12_84 dX12_at_45 hr (fun v6 hr => ?_)
        refine lv_iload X.1 X.2.1 dX12_at_48 (mz_at hl 0 rfl) ?_
        refine mz_iald X hH dX12_at_50 hr (fun v7 hr => ?_)
        refine lv_iconst (v := 5) X.1 X.2.1 dX12_at_51 (by decide) ?_
        refine mz_icmp_eq X 71 dX12_at_52 (by decide) hr (fun hr => ?_) (fun hr => ?_)
        · exact pf_X12_at_b71 r Y h a0 j3 v3 _ _ hr H locs cells slots ls hH hS (mz_sub hl [1, 4, 0] rfl) hc hs
        · refine mz_aload_n X dX12_at_55 rfl (mz_at hl 1 rfl) ?_
          refine mz_getR X hH fl_RX12_84 dX12_at_56 hr (fun v8 hr => ?_)
          refine lv_iload X.1 X.2.1 dX12_at_59 (mz_at hl 0 rfl) ?_
          refine mz_iald X hH dX12_at_61 hr (fun v9 hr => ?_)
          refine lv_bipush (v := 6) X.1 X.2.1 dX12_at_62 (by decide) ?_
          refine mz_icmp_eq X 71 dX12_at_64 (by decide) hr (fun hr => ?_) (fun hr => ?_)
          · exact pf_X12_at_b71 r Y h a0 j3 v3 _ _ hr H locs cells slots ls hH hS (mz_sub hl [1, 4, 0] rfl) hc hs
          · refine mz_ldc2 (v := 9221120237041090560) X (mz_tb 1321 (by decide +kernel) rfl) dX12_at_67 ?_
            exact mz_lret Y dX12_at_70 hH hS hc hs hr
    · refine mz_ldc2 (v := 9221120237041090560) X (mz_tb 1321 (by decide +kernel) rfl) dX12_at_21 ?_
      exact mz_lret Y dX12_at_24 hH hS hc hs hr
set_option maxRecDepth 100000 in
theorem ct_X12_at (l : Launch) (g : mz_G) (h : mz_H) (a0 : (Option Nat)) (x1 : Int32) (x2 : Int32) (j3 : Int64) (r : Int64) (hf : mz_H) (k n : Nat) (hr : fn_X12_at h a0 x1 x2 j3 = some (r, hf, k, n)) : mz_C l g yX12_at cX12_at 21 (some .long) 2 44 [va_rf a0, .int x1, .int x2, .long j3] h (some (Value.long r)) hf k n := by
  refine mz_met (as := [(false, va_rf a0), (false, .int x1), (false, .int x2), (true, .long j3)]) (plainFor_of_name (by decide)) (mz_c1 (mz_cat_rf _) (mz_c1 rfl (mz_c1 rfl (mz_c1 rfl mz_c0)))) (Nat.le_of_ble_eq_true rfl) ?_
  intro p e s m args below meth c Y
  exact pf_X12_at_b0 r Y h a0 x1 x2 j3 _ _ hr
theorem dX12_list_0 : decode cX12_list 0 = .ok (.aload_n 0, 1) := by decide +kernel
theorem dX12_list_1 : decode cX12_list 1 = .ok (.iconst 0, 1) := by decide +kernel
theorem dX12_list_2 : decode cX12_list 2 = .ok (.putfield 125, 3) := by decide +kernel
theorem dX12_list_5 : decode cX12_list 5 = .ok (.iload_n 1, 1) := by decide +kernel
theorem dX12_list_6 : decode cX12_list 6 = .ok (.iconst 0, 1) := by decide +kernel
theorem dX12_list_7 : decode cX12_list 7 = .ok (.iconst 3, 1) := by decide +kernel
theorem dX12_list_8 : decode cX12_list 8 = .ok (.invokestatic 142, 3) := by decide +kernel
theorem dX12_list_11 : decode cX12_list 11 = .ok (.ifCond .ne 5, 3) := by decide +kernel
theorem dX12_list_14 : decode cX12_list 14 = .ok (.iconst (-1), 1) := by decide +kernel
theorem dX12_list_15 : decode cX12_list 15 = .ok (.ireturn, 1) := by decide +kernel
theorem dX12_list_16 : decode cX12_list 16 = .ok (.iload_n 2, 1) := by decide +kernel
theorem dX12_list_17 : decode cX12_list 17 = .ok (.iconst 0, 1) := by decide +kernel
theorem dX12_list_18 : decode cX12_list 18 = .ok (.iconst 2, 1) := by decide +kernel
theorem dX12_list_19 : decode cX12_list 19 = .ok (.invokestatic 142, 3) := by decide +kernel
theorem dX12_list_22 : decode cX12_list 22 = .ok (.ifCond .eq 9, 3) := by decide +kernel
theorem dX12_list_25 : decode cX12_list 25 = .ok (.iload_n 3, 1) := by decide +kernel
theorem dX12_list_26 : decode cX12_list 26 = .ok (.bipush 8, 2) := by decide +kernel
theorem dX12_list_28 : decode cX12_list 28 = .ok (.if_icmp .le 6, 3) := by decide +kernel
theorem dX12_list_31 : decode cX12_list 31 = .ok (.bipush (-2), 2) := by decide +kernel
theorem dX12_list_33 : decode cX12_list 33 = .ok (.ireturn, 1) := by decide +kernel
theorem dX12_list_34 : decode cX12_list 34 = .ok (.iload_n 3, 1) := by decide +kernel
theorem dX12_list_35 : decode cX12_list 35 = .ok (.ifCond .ge 9, 3) := by decide +kernel
theorem dX12_list_38 : decode cX12_list 38 = .ok (.aload_n 0, 1) := by decide +kernel
theorem dX12_list_39 : decode cX12_list 39 = .ok (.iconst 5, 1) := by decide +kernel
theorem dX12_list_40 : decode cX12_list 40 = .ok (.invokevirtual 131, 3) := by decide +kernel
theorem dX12_list_43 : decode cX12_list 43 = .ok (.ireturn, 1) := by decide +kernel
theorem dX12_list_44 : decode cX12_list 44 = .ok (.aload_n 0, 1) := by decide +kernel
theorem dX12_list_45 : decode cX12_list 45 = .ok (.getfield 116, 3) := by decide +kernel
theorem dX12_list_48 : decode cX12_list 48 = .ok (.iload_n 1, 1) := by decide +kernel
theorem dX12_list_49 : decode cX12_list 49 = .ok (.iload_n 3, 1) := by decide +kernel
theorem dX12_list_50 : decode cX12_list 50 = .ok (.iastore, 1) := by decide +kernel
theorem dX12_list_51 : decode cX12_list 51 = .ok (.aload_n 0, 1) := by decide +kernel
theorem dX12_list_52 : decode cX12_list 52 = .ok (.getfield 119, 3) := by decide +kernel
theorem dX12_list_55 : decode cX12_list 55 = .ok (.iload_n 1, 1) := by decide +kernel
theorem dX12_list_56 : decode cX12_list 56 = .ok (.iload_n 2, 1) := by decide +kernel
theorem dX12_list_57 : decode cX12_list 57 = .ok (.iastore, 1) := by decide +kernel
theorem dX12_list_58 : decode cX12_list 58 = .ok (.iconst 0, 1) := by decide +kernel
theorem dX12_list_59 : decode cX12_list 59 = .ok (.istore 4, 2) := by decide +kernel
theorem dX12_list_61 : decode cX12_list 61 = .ok (.iload 4, 2) := by decide +kernel
theorem dX12_list_63 : decode cX12_list 63 = .ok (.iload_n 3, 1) := by decide +kernel
theorem dX12_list_64 : decode cX12_list 64 = .ok (.if_icmp .ge 23, 3) := by decide +kernel
theorem dX12_list_67 : decode cX12_list 67 = .ok (.aload_n 0, 1) := by decide +kernel
theorem dX12_list_68 : decode cX12_list 68 = .ok (.getfield 122, 3) := by decide +kernel
theorem dX12_list_71 : decode cX12_list 71 = .ok (.bipush 8, 2) := by decide +kernel
theorem dX12_list_73 : decode cX12_list 73 = .ok (.iload_n 1, 1) := by decide +kernel
theorem dX12_list_74 : decode cX12_list 74 = .ok (.imul, 1) := by decide +kernel
theorem dX12_list_75 : decode cX12_list 75 = .ok (.iload 4, 2) := by decide +kernel
theorem dX12_list_77 : decode cX12_list 77 = .ok (.iadd, 1) := by decide +kernel
theorem dX12_list_78 : decode cX12_list 78 = .ok (.bipush (-9), 2) := by decide +kernel
theorem dX12_list_80 : decode cX12_list 80 = .ok (.iastore, 1) := by decide +kernel
theorem dX12_list_81 : decode cX12_list 81 = .ok (.iinc 4 1, 3) := by decide +kernel
theorem dX12_list_84 : decode cX12_list 84 = .ok (.goto (-23), 3) := by decide +kernel
theorem dX12_list_87 : decode cX12_list 87 = .ok (.iconst 1, 1) := by decide +kernel
theorem dX12_list_88 : decode cX12_list 88 = .ok (.ireturn, 1) := by decide +kernel
def fn_X12_list_b61 : Nat → mz_H → (Option Nat) → Int32 → Int32 → Int32 → mz_Res Int32
  | 0, _, _, _, _, _ => none
  | n + 1, h, a0, x1, x3, x4 =>
    if x3 ≤ x4 then
      mz_ret 1 h
    else
      mz_op (mz_fR h a0 11 51) fun v1 =>
      mz_op (mz_sI h v1 0 ((8 * x1) + x4) (-9)) fun h =>
      mz_op (some (x4 + 1)) fun v2 =>
      fn_X12_list_b61 n h a0 x1 x3 v2
set_option maxHeartbeats 4000000 in
set_option maxRecDepth 100000 in
theorem pf_X12_list_b61 (r : Int32) (Y : mz_Y p g RX12 cX12_list 5 (some .int) "list" (mz_AF h0) s m args meth c) : ∀ (n : Nat) (h : mz_H) (a0 : (Option Nat)) (x1 : Int32) (x3 : Int32) (x4 : Int32) (dc ds : Nat), fn_X12_list_b61 n h a0 x1 x3 x4 = some (r, hf, dc, ds) → mz_Go l g p e s m args below meth c 1 22 DC DS h0 (some (Value.int r)) hf 5 61 [(0, false, va_rf a0), (1, false, .int x1), (3, false, .int x3), (4, false, .int x4)] [] h dc ds := by
  have X := Y.1
  intro n
  induction n with
  | zero => intro h a0 x1 x3 x4 dc ds hr; simp [fn_X12_list_b61] at hr
  | succ n ih =>
    intro h a0 x1 x3 x4 dc ds hr
    rw [fn_X12_list_b61] at hr
    intro H locs cells slots ls hH hS hl hc hs
    refine lv_iload X.1 X.2.1 dX12_list_61 (mz_at hl 3 rfl) ?_
    refine lv_iload_n X.1 X.2.1 dX12_list_63 rfl (mz_at hl 2 rfl) ?_
    refine mz_icmp_ge X 87 dX12_list_64 (by decide) hr (fun hr => ?_) (fun hr => ?_)
    · refine lv_iconst (v := 1) X.1 X.2.1 dX12_list_87 (by decide) ?_
      exact mz_iret Y dX12_list_88 hH hS hc hs hr
    · refine mz_aload_n X dX12_list_67 rfl (mz_at hl 0 rfl) ?_
      refine mz_getR X hH fl_RX12_122 dX12_list_68 hr (fun v1 hr => ?_)
      refine lv_bipush (v := 8) X.1 X.2.1 dX12_list_71 (by decide) ?_
      refine lv_iload_n X.1 X.2.1 dX12_list_73 rfl (mz_at hl 1 rfl) ?_
      refine lv_imul X.1 X.2.1 dX12_list_74 ?_
      refine lv_iload X.1 X.2.1 dX12_list_75 (mz_at hl 3 rfl) ?_
      refine lv_iadd X.1 X.2.1 dX12_list_77 ?_
      refine lv_bipush (v := (-9)) X.1 X.2.1 dX12_list_78 (by decide) ?_
      refine mz_iast X hH hS dX12_list_80 hr (fun h H locs hr hH hS => ?_)
      obtain ⟨v2, hv2, hr⟩ := mz_op_some hr
      have hv2 := Option.some.inj hv2
      refine mz_iinc (k := 3) X [(4, false, .int v2), (0, false, va_rf a0), (1, false, .int x1), (3, false, .int x3)] v2 dX12_list_81 hl rfl hv2 (by decide) rfl (fun ls hl => ?_)
      refine lv_goto (tgt := 61) X.1 X.2.1 dX12_list_84 (by decide) ?_
      exact ih h a0 x1 x3 v2 _ _ hr H locs cells slots ls hH hS (mz_sub hl [1, 2, 3, 0] rfl) hc hs
def fn_X12_list (h : mz_H) (a0 : (Option Nat)) (x1 : Int32) (x2 : Int32) (x3 : Int32) : mz_Res Int32 :=
  mz_op (mz_pF h a0 11 0 (Value.int 0)) fun h =>
  mz_call (fn_X12_within h x1 0 3) fun v1 h =>
  if v1 = 0 then
    mz_ret (-1) h
  else
    mz_call (fn_X12_within h x2 0 2) fun v2 h =>
    if v2 = 0 then
      mz_ret (-2) h
    else
      if x3 ≤ 8 then
        if 0 ≤ x3 then
          mz_op (mz_fR h a0 11 49) fun v3 =>
          mz_op (mz_sI h v3 0 x1 x3) fun h =>
          mz_op (mz_fR h a0 11 50) fun v4 =>
          mz_op (mz_sI h v4 0 x1 x2) fun h =>
          fn_X12_list_b61 1001 h a0 x1 x3 0
        else
          mz_chk (mz_is h a0 11) <| mz_call (fn_X12_fails h a0 5) fun v5 h =>
          mz_ret v5 h
      else
        mz_ret (-2) h
set_option maxHeartbeats 4000000 in
set_option maxRecDepth 100000 in
theorem pf_X12_list_b0 (r : Int32) (Y : mz_Y p g RX12 cX12_list 5 (some .int) "list" (mz_AF h0) s m args meth c) (h : mz_H) (a0 : (Option Nat)) (x1 : Int32) (x2 : Int32) (x3 : Int32) (dc ds : Nat) (hr : fn_X12_list h a0 x1 x2 x3 = some (r, hf, dc, ds)) : mz_Go l g p e s m args below meth c 1 22 DC DS h0 (some (Value.int r)) hf 5 0 [(0, false, va_rf a0), (1, false, .int x1), (2, false, .int x2), (3, false, .int x3)] [] h dc ds := by
  unfold fn_X12_list at hr
  intro H locs cells slots ls hH hS hl hc hs
  have X := Y.1
  refine mz_aload_n X dX12_list_0 rfl (mz_at hl 0 rfl) ?_
  refine lv_iconst (v := 0) X.1 X.2.1 dX12_list_1 (by decide) ?_
  refine mz_put X hH hS fp_RX12_125 dX12_list_2 rfl rfl hr (fun h H locs hr hH hS => ?_)
  refine lv_iload_n X.1 X.2.1 dX12_list_5 rfl (mz_at hl 1 rfl) ?_
  refine lv_iconst (v := 0) X.1 X.2.1 dX12_list_6 (by decide) ?_
  refine lv_iconst (v := 3) X.1 X.2.1 dX12_list_7 (by decide) ?_
  refine mz_kS Value.int X hH hS hl.1.1 [.int x1, .int 0, .int 3] [] hr (ct_X12_within l g h x1 0 3) mb_RX12_142 im_X12_within rfl (Nat.le_of_ble_eq_true rfl) ⟨Nat.le_of_ble_eq_true rfl, Nat.le_of_ble_eq_true rfl⟩ hc hs dX12_list_8 rfl (fun v1 h H locs cells slots dc ds hr hH hS hc hs => ?_)
  refine mz_if_ne X 16 dX12_list_11 (by decide) hr (fun hr => ?_) (fun hr => ?_)
  · refine lv_iload_n X.1 X.2.1 dX12_list_16 rfl (mz_at hl 2 rfl) ?_
    refine lv_iconst (v := 0) X.1 X.2.1 dX12_list_17 (by decide) ?_
    refine lv_iconst (v := 2) X.1 X.2.1 dX12_list_18 (by decide) ?_
    refine mz_kS Value.int X hH hS hl.1.1 [.int x2, .int 0, .int 2] [] hr (ct_X12_within l g h x2 0 2) mb_RX12_142 im_X12_within rfl (Nat.le_of_ble_eq_true rfl) ⟨Nat.le_of_ble_eq_true rfl, Nat.le_of_ble_eq_true rfl⟩ hc hs dX12_list_19 rfl (fun v2 h H locs cells slots dc ds hr hH hS hc hs => ?_)
    refine mz_if_eq X 31 dX12_list_22 (by decide) hr (fun hr => ?_) (fun hr => ?_)
    · refine lv_bipush (v := (-2)) X.1 X.2.1 dX12_list_31 (by decide) ?_
      exact mz_iret Y dX12_list_33 hH hS hc hs hr
    · refine lv_iload_n X.1 X.2.1 dX12_list_25 rfl (mz_at hl 3 rfl) ?_
      refine lv_bipush (v := 8) X.1 X.2.1 dX12_list_26 (by decide) ?_
      refine mz_icmp_le X 34 dX12_list_28 (by decide) hr (fun hr => ?_) (fun hr => ?_)
      · refine lv_iload_n X.1 X.2.1 dX12_list_34 rfl (mz_at hl 3 rfl) ?_
        refine mz_if_ge X 44 dX12_list_35 (by decide) hr (fun hr => ?_) (fun hr => ?_)
        · refine mz_aload_n X dX12_list_44 rfl (mz_at hl 0 rfl) ?_
          refine mz_getR X hH fl_RX12_116 dX12_list_45 hr (fun v3 hr => ?_)
          refine lv_iload_n X.1 X.2.1 dX12_list_48 rfl (mz_at hl 1 rfl) ?_
          refine lv_iload_n X.1 X.2.1 dX12_list_49 rfl (mz_at hl 3 rfl) ?_
          refine mz_iast X hH hS dX12_list_50 hr (fun h H locs hr hH hS => ?_)
          refine mz_aload_n X dX12_list_51 rfl (mz_at hl 0 rfl) ?_
          refine mz_getR X hH fl_RX12_119 dX12_list_52 hr (fun v4 hr => ?_)
          refine lv_iload_n X.1 X.2.1 dX12_list_55 rfl (mz_at hl 1 rfl) ?_
          refine lv_iload_n X.1 X.2.1 dX12_list_56 rfl (mz_at hl 2 rfl) ?_
          refine mz_iast X hH hS dX12_list_57 hr (fun h H locs hr hH hS => ?_)
          refine lv_iconst (v := 0) X.1 X.2.1 dX12_list_58 (by decide) ?_
          refine mz_istore X [(4, false, .int 0), (0, false, va_rf a0), (1, false, .int x1), (2, false, .int x2), (3, false, .int x3)] dX12_list_59 hl (by decide) rfl (fun ls hl => ?_)
          exact pf_X12_list_b61 r Y 1001 h a0 x1 x3 0 _ _ hr H locs cells slots ls hH hS (mz_sub hl [1, 2, 4, 0] rfl) hc hs
        · refine mz_aload_n X dX12_list_38 rfl (mz_at hl 0 rfl) ?_
          refine lv_iconst (v := 5) X.1 X.2.1 dX12_list_39 (by decide) ?_
          refine mz_kV Value.int X hH hS hl.1.1 [.int 5] [] hr (ct_X12_fails l g h a0 5) mb_RX12_131 rfl im_X12_fails rfl (Nat.le_of_ble_eq_true rfl) ⟨Nat.le_of_ble_eq_true rfl, Nat.le_of_ble_eq_true rfl⟩ hc hs dX12_list_40 rfl (fun v5 h H locs cells slots dc ds hr hH hS hc hs => ?_)
          exact mz_iret Y dX12_list_43 hH hS hc hs hr
      · refine lv_bipush (v := (-2)) X.1 X.2.1 dX12_list_31 (by decide) ?_
        exact mz_iret Y dX12_list_33 hH hS hc hs hr
  · refine lv_iconst (v := (-1)) X.1 X.2.1 dX12_list_14 (by decide) ?_
    exact mz_iret Y dX12_list_15 hH hS hc hs hr
set_option maxRecDepth 100000 in
theorem ct_X12_list (l : Launch) (g : mz_G) (h : mz_H) (a0 : (Option Nat)) (x1 : Int32) (x2 : Int32) (x3 : Int32) (r : Int32) (hf : mz_H) (k n : Nat) (hr : fn_X12_list h a0 x1 x2 x3 = some (r, hf, k, n)) : mz_C l g yX12_list cX12_list 5 (some .int) 1 22 [va_rf a0, .int x1, .int x2, .int x3] h (some (Value.int r)) hf k n := by
  refine mz_met (as := [(false, va_rf a0), (false, .int x1), (false, .int x2), (false, .int x3)]) (plainFor_of_name (by decide)) (mz_c1 (mz_cat_rf _) (mz_c1 rfl (mz_c1 rfl (mz_c1 rfl mz_c0)))) (Nat.le_of_ble_eq_true rfl) ?_
  intro p e s m args below meth c Y
  exact pf_X12_list_b0 r Y h a0 x1 x2 x3 _ _ hr
theorem dX12_takes_0 : decode cX12_takes 0 = .ok (.iload_n 2, 1) := by decide +kernel
theorem dX12_takes_1 : decode cX12_takes 1 = .ok (.bipush (-9), 2) := by decide +kernel
theorem dX12_takes_3 : decode cX12_takes 3 = .ok (.if_icmp .eq 12, 3) := by decide +kernel
theorem dX12_takes_6 : decode cX12_takes 6 = .ok (.aload_n 0, 1) := by decide +kernel
theorem dX12_takes_7 : decode cX12_takes 7 = .ok (.getfield 119, 3) := by decide +kernel
theorem dX12_takes_10 : decode cX12_takes 10 = .ok (.iload_n 1, 1) := by decide +kernel
theorem dX12_takes_11 : decode cX12_takes 11 = .ok (.iaload, 1) := by decide +kernel
theorem dX12_takes_12 : decode cX12_takes 12 = .ok (.ifCond .ne 5, 3) := by decide +kernel
theorem dX12_takes_15 : decode cX12_takes 15 = .ok (.iconst 1, 1) := by decide +kernel
theorem dX12_takes_16 : decode cX12_takes 16 = .ok (.ireturn, 1) := by decide +kernel
theorem dX12_takes_17 : decode cX12_takes 17 = .ok (.aload_n 0, 1) := by decide +kernel
theorem dX12_takes_18 : decode cX12_takes 18 = .ok (.getfield 119, 3) := by decide +kernel
theorem dX12_takes_21 : decode cX12_takes 21 = .ok (.iload_n 1, 1) := by decide +kernel
theorem dX12_takes_22 : decode cX12_takes 22 = .ok (.iaload, 1) := by decide +kernel
theorem dX12_takes_23 : decode cX12_takes 23 = .ok (.iconst 1, 1) := by decide +kernel
theorem dX12_takes_24 : decode cX12_takes 24 = .ok (.if_icmp .ne 11, 3) := by decide +kernel
theorem dX12_takes_27 : decode cX12_takes 27 = .ok (.aload_n 0, 1) := by decide +kernel
theorem dX12_takes_28 : decode cX12_takes 28 = .ok (.iload_n 2, 1) := by decide +kernel
theorem dX12_takes_29 : decode cX12_takes 29 = .ok (.invokevirtual 208, 3) := by decide +kernel
theorem dX12_takes_32 : decode cX12_takes 32 = .ok (.goto 28, 3) := by decide +kernel
theorem dX12_takes_35 : decode cX12_takes 35 = .ok (.aload_n 0, 1) := by decide +kernel
theorem dX12_takes_36 : decode cX12_takes 36 = .ok (.getfield 7, 3) := by decide +kernel
theorem dX12_takes_39 : decode cX12_takes 39 = .ok (.iload_n 2, 1) := by decide +kernel
theorem dX12_takes_40 : decode cX12_takes 40 = .ok (.iaload, 1) := by decide +kernel
theorem dX12_takes_41 : decode cX12_takes 41 = .ok (.iconst 4, 1) := by decide +kernel
theorem dX12_takes_42 : decode cX12_takes 42 = .ok (.if_icmp .eq 13, 3) := by decide +kernel
theorem dX12_takes_45 : decode cX12_takes 45 = .ok (.aload_n 0, 1) := by decide +kernel
theorem dX12_takes_46 : decode cX12_takes 46 = .ok (.getfield 7, 3) := by decide +kernel
theorem dX12_takes_49 : decode cX12_takes 49 = .ok (.iload_n 2, 1) := by decide +kernel
theorem dX12_takes_50 : decode cX12_takes 50 = .ok (.iaload, 1) := by decide +kernel
theorem dX12_takes_51 : decode cX12_takes 51 = .ok (.iconst 5, 1) := by decide +kernel
theorem dX12_takes_52 : decode cX12_takes 52 = .ok (.if_icmp .ne 7, 3) := by decide +kernel
theorem dX12_takes_55 : decode cX12_takes 55 = .ok (.iconst 1, 1) := by decide +kernel
theorem dX12_takes_56 : decode cX12_takes 56 = .ok (.goto 4, 3) := by decide +kernel
theorem dX12_takes_59 : decode cX12_takes 59 = .ok (.iconst 0, 1) := by decide +kernel
theorem dX12_takes_60 : decode cX12_takes 60 = .ok (.ireturn, 1) := by decide +kernel
def fn_X12_takes_b55 (h : mz_H) : mz_Res Int32 :=
  mz_chk ((1 : Int32) &&& 1 == 1) (mz_ret 1 h)
set_option maxHeartbeats 4000000 in
set_option maxRecDepth 100000 in
theorem pf_X12_takes_b55 (r : Int32) (Y : mz_Y p g RX12 cX12_takes 3 (some .boolean) "takes" (mz_AF h0) s m args meth c) (h : mz_H) (dc ds : Nat) (hr : fn_X12_takes_b55 h = some (r, hf, dc, ds)) : mz_Go l g p e s m args below meth c 1 21 DC DS h0 (some (Value.int r)) hf 3 55 [] [] h dc ds := by
  unfold fn_X12_takes_b55 at hr
  intro H locs cells slots ls hH hS hl hc hs
  have X := Y.1
  refine lv_iconst (v := 1) X.1 X.2.1 dX12_takes_55 (by decide) ?_
  refine lv_goto (tgt := 60) X.1 X.2.1 dX12_takes_56 (by decide) ?_
  exact mz_zret Y dX12_takes_60 hH hS hc hs hr
def fn_X12_takes (h : mz_H) (a0 : (Option Nat)) (x1 : Int32) (x2 : Int32) : mz_Res Int32 :=
  if x2 = (-9) then
    mz_chk ((1 : Int32) &&& 1 == 1) (mz_ret 1 h)
  else
    mz_op (mz_fR h a0 11 50) fun v1 =>
    mz_op (mz_aI h v1 0 x1) fun v2 =>
    if v2 = 0 then
      mz_chk ((1 : Int32) &&& 1 == 1) (mz_ret 1 h)
    else
      mz_op (mz_fR h a0 11 50) fun v3 =>
      mz_op (mz_aI h v3 0 x1) fun v4 =>
      if v4 = 1 then
        mz_chk (mz_is h a0 11) <| mz_call (fn_X12_isConcrete h a0 x2) fun v9 h =>
        mz_chk (v9 &&& 1 == v9) (mz_ret v9 h)
      else
        mz_op (mz_fR h a0 11 3) fun v5 =>
        mz_op (mz_aI h v5 0 x2) fun v6 =>
        if v6 = 4 then
          fn_X12_takes_b55 h
        else
          mz_op (mz_fR h a0 11 3) fun v7 =>
          mz_op (mz_aI h v7 0 x2) fun v8 =>
          if v8 = 5 then
            fn_X12_takes_b55 h
          else
            mz_chk ((0 : Int32) &&& 1 == 0) (mz_ret 0 h)
set_option maxHeartbeats 4000000 in
set_option maxRecDepth 100000 in
theorem pf_X12_takes_b0 (r : Int32) (Y : mz_Y p g RX12 cX12_takes 3 (some .boolean) "takes" (mz_AF h0) s m args meth c) (h : mz_H) (a0 : (Option Nat)) (x1 : Int32) (x2 : Int32) (dc ds : Nat) (hr : fn_X12_takes h a0 x1 x2 = some (r, hf, dc, ds)) : mz_Go l g p e s m args below meth c 1 21 DC DS h0 (some (Value.int r)) hf 3 0 [(0, false, va_rf a0), (1, false, .int x1), (2, false, .int x2)] [] h dc ds := by
  unfold fn_X12_takes at hr
  intro H locs cells slots ls hH hS hl hc hs
  have X := Y.1
  refine lv_iload_n X.1 X.2.1 dX12_takes_0 rfl (mz_at hl 2 rfl) ?_
  refine lv_bipush (v := (-9)) X.1 X.2.1 dX12_takes_1 (by decide) ?_
  refine mz_icmp_eq X 15 dX12_takes_3 (by decide) hr (fun hr => ?_) (fun hr => ?_)
  · refine lv_iconst (v := 1) X.1 X.2.1 dX12_takes_15 (by decide) ?_
    exact mz_zret Y dX12_takes_16 hH hS hc hs hr
  · refine mz_aload_n X dX12_takes_6 rfl (mz_at hl 0 rfl) ?_
    refine mz_getR X hH fl_RX12_119 dX12_takes_7 hr (fun v1 hr => ?_)
    refine lv_iload_n X.1 X.2.1 dX12_takes_10 rfl (mz_at hl 1 rfl) ?_
    refine mz_iald X hH dX12_takes_11 hr (fun v2 hr => ?_)
    refine mz_if_ne X 17 dX12_takes_12 (by decide) hr (fun hr => ?_) (fun hr => ?_)
    · refine mz_aload_n X dX12_takes_17 rfl (mz_at hl 0 rfl) ?_
      refine mz_getR X hH fl_RX12_119 dX12_takes_18 hr (fun v3 hr => ?_)
      refine lv_iload_n X.1 X.2.1 dX12_takes_21 rfl (mz_at hl 1 rfl) ?_
      refine mz_iald X hH dX12_takes_22 hr (fun v4 hr => ?_)
      refine lv_iconst (v := 1) X.1 X.2.1 dX12_takes_23 (by decide) ?_
      refine mz_icmp_ne X 35 dX12_takes_24 (by decide) hr (fun hr => ?_) (fun hr => ?_)
      · refine mz_aload_n X dX12_takes_35 rfl (mz_at hl 0 rfl) ?_
        refine mz_getR X hH fl_RX12_7 dX12_takes_36 hr (fun v5 hr => ?_)
        refine lv_iload_n X.1 X.2.1 dX12_takes_39 rfl (mz_at hl 2 rfl) ?_
        refine mz_iald X hH dX12_takes_40 hr (fun v6 hr => ?_)
        refine lv_iconst (v := 4) X.1 X.2.1 dX12_takes_41 (by decide) ?_
        refine mz_icmp_eq X 55 dX12_takes_42 (by decide) hr (fun hr => ?_) (fun hr => ?_)
        · exact pf_X12_takes_b55 r Y h  _ _ hr H locs cells slots ls hH hS (mz_sub hl [] rfl) hc hs
        · refine mz_aload_n X dX12_takes_45 rfl (mz_at hl 0 rfl) ?_
          refine mz_getR X hH fl_RX12_7 dX12_takes_46 hr (fun v7 hr => ?_)
          refine lv_iload_n X.1 X.2.1 dX12_takes_49 rfl (mz_at hl 2 rfl) ?_
          refine mz_iald X hH dX12_takes_50 hr (fun v8 hr => ?_)
          refine lv_iconst (v := 5) X.1 X.2.1 dX12_takes_51 (by decide) ?_
          refine mz_icmp_ne X 59 dX12_takes_52 (by decide) hr (fun hr => ?_) (fun hr => ?_)
          · refine lv_iconst (v := 0) X.1 X.2.1 dX12_takes_59 (by decide) ?_
            exact mz_zret Y dX12_takes_60 hH hS hc hs hr
          · exact pf_X12_takes_b55 r Y h  _ _ hr H locs cells slots ls hH hS (mz_sub hl [] rfl) hc hs
      · refine mz_aload_n X dX12_takes_27 rfl (mz_at hl 0 rfl) ?_
        refine lv_iload_n X.1 X.2.1 dX12_takes_28 rfl (mz_at hl 2 rfl) ?_
        refine mz_kV Value.int X hH hS hl.1.1 [.int x2] [] hr (ct_X12_isConcrete l g h a0 x2) mb_RX12_208 rfl im_X12_isConcrete rfl (Nat.le_of_ble_eq_true rfl) ⟨Nat.le_of_ble_eq_true rfl, Nat.le_of_ble_eq_true rfl⟩ hc hs dX12_takes_29 rfl (fun v9 h H locs cells slots dc ds hr hH hS hc hs => ?_)
        refine lv_goto (tgt := 60) X.1 X.2.1 dX12_takes_32 (by decide) ?_
        exact mz_zret Y dX12_takes_60 hH hS hc hs hr
    · refine lv_iconst (v := 1) X.1 X.2.1 dX12_takes_15 (by decide) ?_
      exact mz_zret Y dX12_takes_16 hH hS hc hs hr
set_option maxRecDepth 100000 in
theorem ct_X12_takes (l : Launch) (g : mz_G) (h : mz_H) (a0 : (Option Nat)) (x1 : Int32) (x2 : Int32) (r : Int32) (hf : mz_H) (k n : Nat) (hr : fn_X12_takes h a0 x1 x2 = some (r, hf, k, n)) : mz_C l g yX12_takes cX12_takes 3 (some .boolean) 1 21 [va_rf a0, .int x1, .int x2] h (some (Value.int r)) hf k n := by
  refine mz_met (as := [(false, va_rf a0), (false, .int x1), (false, .int x2)]) (plainFor_of_name (by decide)) (mz_c1 (mz_cat_rf _) (mz_c1 rfl (mz_c1 rfl mz_c0))) (Nat.le_of_ble_eq_true rfl) ?_
  intro p e s m args below meth c Y
  exact pf_X12_takes_b0 r Y h a0 x1 x2 _ _ hr
theorem dX12_stand_0 : decode cX12_stand 0 = .ok (.aload_n 0, 1) := by decide +kernel
theorem dX12_stand_1 : decode cX12_stand 1 = .ok (.iconst 0, 1) := by decide +kernel
theorem dX12_stand_2 : decode cX12_stand 2 = .ok (.putfield 125, 3) := by decide +kernel
theorem dX12_stand_5 : decode cX12_stand 5 = .ok (.iload_n 1, 1) := by decide +kernel
theorem dX12_stand_6 : decode cX12_stand 6 = .ok (.iconst 0, 1) := by decide +kernel
theorem dX12_stand_7 : decode cX12_stand 7 = .ok (.iconst 3, 1) := by decide +kernel
theorem dX12_stand_8 : decode cX12_stand 8 = .ok (.invokestatic 142, 3) := by decide +kernel
theorem dX12_stand_11 : decode cX12_stand 11 = .ok (.ifCond .eq 17, 3) := by decide +kernel
theorem dX12_stand_14 : decode cX12_stand 14 = .ok (.iload_n 3, 1) := by decide +kernel
theorem dX12_stand_15 : decode cX12_stand 15 = .ok (.bipush (-9), 2) := by decide +kernel
theorem dX12_stand_17 : decode cX12_stand 17 = .ok (.if_icmp .eq 13, 3) := by decide +kernel
theorem dX12_stand_20 : decode cX12_stand 20 = .ok (.aload_n 0, 1) := by decide +kernel
theorem dX12_stand_21 : decode cX12_stand 21 = .ok (.iload_n 3, 1) := by decide +kernel
theorem dX12_stand_22 : decode cX12_stand 22 = .ok (.invokevirtual 138, 3) := by decide +kernel
theorem dX12_stand_25 : decode cX12_stand 25 = .ok (.ifCond .ne 5, 3) := by decide +kernel
theorem dX12_stand_28 : decode cX12_stand 28 = .ok (.iconst (-1), 1) := by decide +kernel
theorem dX12_stand_29 : decode cX12_stand 29 = .ok (.ireturn, 1) := by decide +kernel
theorem dX12_stand_30 : decode cX12_stand 30 = .ok (.aload_n 0, 1) := by decide +kernel
theorem dX12_stand_31 : decode cX12_stand 31 = .ok (.getfield 116, 3) := by decide +kernel
theorem dX12_stand_34 : decode cX12_stand 34 = .ok (.iload_n 1, 1) := by decide +kernel
theorem dX12_stand_35 : decode cX12_stand 35 = .ok (.iaload, 1) := by decide +kernel
theorem dX12_stand_36 : decode cX12_stand 36 = .ok (.ifCond .ge 9, 3) := by decide +kernel
theorem dX12_stand_39 : decode cX12_stand 39 = .ok (.aload_n 0, 1) := by decide +kernel
theorem dX12_stand_40 : decode cX12_stand 40 = .ok (.iconst 1, 1) := by decide +kernel
theorem dX12_stand_41 : decode cX12_stand 41 = .ok (.invokevirtual 131, 3) := by decide +kernel
theorem dX12_stand_44 : decode cX12_stand 44 = .ok (.ireturn, 1) := by decide +kernel
theorem dX12_stand_45 : decode cX12_stand 45 = .ok (.iload_n 2, 1) := by decide +kernel
theorem dX12_stand_46 : decode cX12_stand 46 = .ok (.ifCond .lt 13, 3) := by decide +kernel
theorem dX12_stand_49 : decode cX12_stand 49 = .ok (.iload_n 2, 1) := by decide +kernel
theorem dX12_stand_50 : decode cX12_stand 50 = .ok (.aload_n 0, 1) := by decide +kernel
theorem dX12_stand_51 : decode cX12_stand 51 = .ok (.getfield 116, 3) := by decide +kernel
theorem dX12_stand_54 : decode cX12_stand 54 = .ok (.iload_n 1, 1) := by decide +kernel
theorem dX12_stand_55 : decode cX12_stand 55 = .ok (.iaload, 1) := by decide +kernel
theorem dX12_stand_56 : decode cX12_stand 56 = .ok (.if_icmp .lt 9, 3) := by decide +kernel
theorem dX12_stand_59 : decode cX12_stand 59 = .ok (.aload_n 0, 1) := by decide +kernel
theorem dX12_stand_60 : decode cX12_stand 60 = .ok (.iconst 3, 1) := by decide +kernel
theorem dX12_stand_61 : decode cX12_stand 61 = .ok (.invokevirtual 131, 3) := by decide +kernel
theorem dX12_stand_64 : decode cX12_stand 64 = .ok (.ireturn, 1) := by decide +kernel
theorem dX12_stand_65 : decode cX12_stand 65 = .ok (.aload_n 0, 1) := by decide +kernel
theorem dX12_stand_66 : decode cX12_stand 66 = .ok (.iload_n 1, 1) := by decide +kernel
theorem dX12_stand_67 : decode cX12_stand 67 = .ok (.iload_n 3, 1) := by decide +kernel
theorem dX12_stand_68 : decode cX12_stand 68 = .ok (.invokevirtual 301, 3) := by decide +kernel
theorem dX12_stand_71 : decode cX12_stand 71 = .ok (.ifCond .ne 9, 3) := by decide +kernel
theorem dX12_stand_74 : decode cX12_stand 74 = .ok (.aload_n 0, 1) := by decide +kernel
theorem dX12_stand_75 : decode cX12_stand 75 = .ok (.iconst 4, 1) := by decide +kernel
theorem dX12_stand_76 : decode cX12_stand 76 = .ok (.invokevirtual 131, 3) := by decide +kernel
theorem dX12_stand_79 : decode cX12_stand 79 = .ok (.ireturn, 1) := by decide +kernel
theorem dX12_stand_80 : decode cX12_stand 80 = .ok (.aload_n 0, 1) := by decide +kernel
theorem dX12_stand_81 : decode cX12_stand 81 = .ok (.getfield 122, 3) := by decide +kernel
theorem dX12_stand_84 : decode cX12_stand 84 = .ok (.bipush 8, 2) := by decide +kernel
theorem dX12_stand_86 : decode cX12_stand 86 = .ok (.iload_n 1, 1) := by decide +kernel
theorem dX12_stand_87 : decode cX12_stand 87 = .ok (.imul, 1) := by decide +kernel
theorem dX12_stand_88 : decode cX12_stand 88 = .ok (.iload_n 2, 1) := by decide +kernel
theorem dX12_stand_89 : decode cX12_stand 89 = .ok (.iadd, 1) := by decide +kernel
theorem dX12_stand_90 : decode cX12_stand 90 = .ok (.iload_n 3, 1) := by decide +kernel
theorem dX12_stand_91 : decode cX12_stand 91 = .ok (.iastore, 1) := by decide +kernel
theorem dX12_stand_92 : decode cX12_stand 92 = .ok (.iconst 1, 1) := by decide +kernel
theorem dX12_stand_93 : decode cX12_stand 93 = .ok (.ireturn, 1) := by decide +kernel
def fn_X12_stand_b59 (h : mz_H) (a0 : (Option Nat)) : mz_Res Int32 :=
  mz_chk (mz_is h a0 11) <| mz_call (fn_X12_fails h a0 3) fun v1 h =>
  mz_ret v1 h
set_option maxHeartbeats 4000000 in
set_option maxRecDepth 100000 in
theorem pf_X12_stand_b59 (r : Int32) (Y : mz_Y p g RX12 cX12_stand 4 (some .int) "stand" (mz_AF h0) s m args meth c) (h : mz_H) (a0 : (Option Nat)) (dc ds : Nat) (hr : fn_X12_stand_b59 h a0 = some (r, hf, dc, ds)) : mz_Go l g p e s m args below meth c 2 43 DC DS h0 (some (Value.int r)) hf 4 59 [(0, false, va_rf a0)] [] h dc ds := by
  unfold fn_X12_stand_b59 at hr
  intro H locs cells slots ls hH hS hl hc hs
  have X := Y.1
  refine mz_aload_n X dX12_stand_59 rfl (mz_at hl 0 rfl) ?_
  refine lv_iconst (v := 3) X.1 X.2.1 dX12_stand_60 (by decide) ?_
  refine mz_kV Value.int X hH hS hl.1.1 [.int 3] [] hr (ct_X12_fails l g h a0 3) mb_RX12_131 rfl im_X12_fails rfl (Nat.le_of_ble_eq_true rfl) ⟨Nat.le_of_ble_eq_true rfl, Nat.le_of_ble_eq_true rfl⟩ hc hs dX12_stand_61 rfl (fun v1 h H locs cells slots dc ds hr hH hS hc hs => ?_)
  exact mz_iret Y dX12_stand_64 hH hS hc hs hr
def fn_X12_stand_b30 (h : mz_H) (a0 : (Option Nat)) (x1 : Int32) (x2 : Int32) (x3 : Int32) : mz_Res Int32 :=
  mz_op (mz_fR h a0 11 49) fun v1 =>
  mz_op (mz_aI h v1 0 x1) fun v2 =>
  if 0 ≤ v2 then
    if x2 < 0 then
      fn_X12_stand_b59 h a0
    else
      mz_op (mz_fR h a0 11 49) fun v3 =>
      mz_op (mz_aI h v3 0 x1) fun v4 =>
      if x2 < v4 then
        mz_chk (mz_is h a0 11) <| mz_call (fn_X12_takes h a0 x1 x3) fun v5 h =>
        if v5 = 0 then
          mz_chk (mz_is h a0 11) <| mz_call (fn_X12_fails h a0 4) fun v7 h =>
          mz_ret v7 h
        else
          mz_op (mz_fR h a0 11 51) fun v6 =>
          mz_op (mz_sI h v6 0 ((8 * x1) + x2) x3) fun h =>
          mz_ret 1 h
      else
        fn_X12_stand_b59 h a0
  else
    mz_chk (mz_is h a0 11) <| mz_call (fn_X12_fails h a0 1) fun v8 h =>
    mz_ret v8 h
set_option maxHeartbeats 4000000 in
set_option maxRecDepth 100000 in
theorem pf_X12_stand_b30 (r : Int32) (Y : mz_Y p g RX12 cX12_stand 4 (some .int) "stand" (mz_AF h0) s m args meth c) (h : mz_H) (a0 : (Option Nat)) (x1 : Int32) (x2 : Int32) (x3 : Int32) (dc ds : Nat) (hr : fn_X12_stand_b30 h a0 x1 x2 x3 = some (r, hf, dc, ds)) : mz_Go l g p e s m args below meth c 2 43 DC DS h0 (some (Value.int r)) hf 4 30 [(0, false, va_rf a0), (1, false, .int x1), (2, false, .int x2), (3, false, .int x3)] [] h dc ds := by
  unfold fn_X12_stand_b30 at hr
  intro H locs cells slots ls hH hS hl hc hs
  have X := Y.1
  refine mz_aload_n X dX12_stand_30 rfl (mz_at hl 0 rfl) ?_
  refine mz_getR X hH fl_RX12_116 dX12_stand_31 hr (fun v1 hr => ?_)
  refine lv_iload_n X.1 X.2.1 dX12_stand_34 rfl (mz_at hl 1 rfl) ?_
  refine mz_iald X hH dX12_stand_35 hr (fun v2 hr => ?_)
  refine mz_if_ge X 45 dX12_stand_36 (by decide) hr (fun hr => ?_) (fun hr => ?_)
  · refine lv_iload_n X.1 X.2.1 dX12_stand_45 rfl (mz_at hl 2 rfl) ?_
    refine mz_if_lt X 59 dX12_stand_46 (by decide) hr (fun hr => ?_) (fun hr => ?_)
    · exact pf_X12_stand_b59 r Y h a0 _ _ hr H locs cells slots ls hH hS (mz_sub hl [0] rfl) hc hs
    · refine lv_iload_n X.1 X.2.1 dX12_stand_49 rfl (mz_at hl 2 rfl) ?_
      refine mz_aload_n X dX12_stand_50 rfl (mz_at hl 0 rfl) ?_
      refine mz_getR X hH fl_RX12_116 dX12_stand_51 hr (fun v3 hr => ?_)
      refine lv_iload_n X.1 X.2.1 dX12_stand_54 rfl (mz_at hl 1 rfl) ?_
      refine mz_iald X hH dX12_stand_55 hr (fun v4 hr => ?_)
      refine mz_icmp_lt X 65 dX12_stand_56 (by decide) hr (fun hr => ?_) (fun hr => ?_)
      · refine mz_aload_n X dX12_stand_65 rfl (mz_at hl 0 rfl) ?_
        refine lv_iload_n X.1 X.2.1 dX12_stand_66 rfl (mz_at hl 1 rfl) ?_
        refine lv_iload_n X.1 X.2.1 dX12_stand_67 rfl (mz_at hl 3 rfl) ?_
        refine mz_kV Value.int X hH hS hl.1.1 [.int x1, .int x3] [] hr (ct_X12_takes l g h a0 x1 x3) mb_RX12_301 rfl im_X12_takes rfl (Nat.le_of_ble_eq_true rfl) ⟨Nat.le_of_ble_eq_true rfl, Nat.le_of_ble_eq_true rfl⟩ hc hs dX12_stand_68 rfl (fun v5 h H locs cells slots dc ds hr hH hS hc hs => ?_)
        refine mz_if_ne X 80 dX12_stand_71 (by decide) hr (fun hr => ?_) (fun hr => ?_)
        · refine mz_aload_n X dX12_stand_80 rfl (mz_at hl 0 rfl) ?_
          refine mz_getR X hH fl_RX12_122 dX12_stand_81 hr (fun v6 hr => ?_)
          refine lv_bipush (v := 8) X.1 X.2.1 dX12_stand_84 (by decide) ?_
          refine lv_iload_n X.1 X.2.1 dX12_stand_86 rfl (mz_at hl 1 rfl) ?_
          refine lv_imul X.1 X.2.1 dX12_stand_87 ?_
          refine lv_iload_n X.1 X.2.1 dX12_stand_88 rfl (mz_at hl 2 rfl) ?_
          refine lv_iadd X.1 X.2.1 dX12_stand_89 ?_
          refine lv_iload_n X.1 X.2.1 dX12_stand_90 rfl (mz_at hl 3 rfl) ?_
          refine mz_iast X hH hS dX12_stand_91 hr (fun h H locs hr hH hS => ?_)
          refine lv_iconst (v := 1) X.1 X.2.1 dX12_stand_92 (by decide) ?_
          exact mz_iret Y dX12_stand_93 hH hS hc hs hr
        · refine mz_aload_n X dX12_stand_74 rfl (mz_at hl 0 rfl) ?_
          refine lv_iconst (v := 4) X.1 X.2.1 dX12_stand_75 (by decide) ?_
          refine mz_kV Value.int X hH hS hl.1.1 [.int 4] [] hr (ct_X12_fails l g h a0 4) mb_RX12_131 rfl im_X12_fails rfl (Nat.le_of_ble_eq_true rfl) ⟨Nat.le_of_ble_eq_true rfl, Nat.le_of_ble_eq_true rfl⟩ hc hs dX12_stand_76 rfl (fun v7 h H locs cells slots dc ds hr hH hS hc hs => ?_)
          exact mz_iret Y dX12_stand_79 hH hS hc hs hr
      · exact pf_X12_stand_b59 r Y h a0 _ _ hr H locs cells slots ls hH hS (mz_sub hl [0] rfl) hc hs
  · refine mz_aload_n X dX12_stand_39 rfl (mz_at hl 0 rfl) ?_
    refine lv_iconst (v := 1) X.1 X.2.1 dX12_stand_40 (by decide) ?_
    refine mz_kV Value.int X hH hS hl.1.1 [.int 1] [] hr (ct_X12_fails l g h a0 1) mb_RX12_131 rfl im_X12_fails rfl (Nat.le_of_ble_eq_true rfl) ⟨Nat.le_of_ble_eq_true rfl, Nat.le_of_ble_eq_true rfl⟩ hc hs dX12_stand_41 rfl (fun v8 h H locs cells slots dc ds hr hH hS hc hs => ?_)
    exact mz_iret Y dX12_stand_44 hH hS hc hs hr
def fn_X12_stand (h : mz_H) (a0 : (Option Nat)) (x1 : Int32) (x2 : Int32) (x3 : Int32) : mz_Res Int32 :=
  mz_op (mz_pF h a0 11 0 (Value.int 0)) fun h =>
  mz_call (fn_X12_within h x1 0 3) fun v1 h =>
  if v1 = 0 then
    mz_ret (-1) h
  else
    if x3 = (-9) then
      fn_X12_stand_b30 h a0 x1 x2 x3
    else
      mz_chk (mz_is h a0 11) <| mz_call (fn_X12_isClass h a0 x3) fun v2 h =>
      if v2 = 0 then
        mz_ret (-1) h
      else
        fn_X12_stand_b30 h a0 x1 x2 x3
set_option maxHeartbeats 4000000 in
set_option maxRecDepth 100000 in
theorem pf_X12_stand_b0 (r : Int32) (Y : mz_Y p g RX12 cX12_stand 4 (some .int) "stand" (mz_AF h0) s m args meth c) (h : mz_H) (a0 : (Option Nat)) (x1 : Int32) (x2 : Int32) (x3 : Int32) (dc ds : Nat) (hr : fn_X12_stand h a0 x1 x2 x3 = some (r, hf, dc, ds)) : mz_Go l g p e s m args below meth c 2 43 DC DS h0 (some (Value.int r)) hf 4 0 [(0, false, va_rf a0), (1, false, .int x1), (2, false, .int x2), (3, false, .int x3)] [] h dc ds := by
  unfold fn_X12_stand at hr
  intro H locs cells slots ls hH hS hl hc hs
  have X := Y.1
  refine mz_aload_n X dX12_stand_0 rfl (mz_at hl 0 rfl) ?_
  refine lv_iconst (v := 0) X.1 X.2.1 dX12_stand_1 (by decide) ?_
  refine mz_put X hH hS fp_RX12_125 dX12_stand_2 rfl rfl hr (fun h H locs hr hH hS => ?_)
  refine lv_iload_n X.1 X.2.1 dX12_stand_5 rfl (mz_at hl 1 rfl) ?_
  refine lv_iconst (v := 0) X.1 X.2.1 dX12_stand_6 (by decide) ?_
  refine lv_iconst (v := 3) X.1 X.2.1 dX12_stand_7 (by decide) ?_
  refine mz_kS Value.int X hH hS hl.1.1 [.int x1, .int 0, .int 3] [] hr (ct_X12_within l g h x1 0 3) mb_RX12_142 im_X12_within rfl (Nat.le_of_ble_eq_true rfl) ⟨Nat.le_of_ble_eq_true rfl, Nat.le_of_ble_eq_true rfl⟩ hc hs dX12_stand_8 rfl (fun v1 h H locs cells slots dc ds hr hH hS hc hs => ?_)
  refine mz_if_eq X 28 dX12_stand_11 (by decide) hr (fun hr => ?_) (fun hr => ?_)
  · refine lv_iconst (v := (-1)) X.1 X.2.1 dX12_stand_28 (by decide) ?_
    exact mz_iret Y dX12_stand_29 hH hS hc hs hr
  · refine lv_iload_n X.1 X.2.1 dX12_stand_14 rfl (mz_at hl 3 rfl) ?_
    refine lv_bipush (v := (-9)) X.1 X.2.1 dX12_stand_15 (by decide) ?_
    refine mz_icmp_eq X 30 dX12_stand_17 (by decide) hr (fun hr => ?_) (fun hr => ?_)
    · exact pf_X12_stand_b30 r Y h a0 x1 x2 x3 _ _ hr H locs cells slots ls hH hS (mz_sub hl [0, 1, 2, 3] rfl) hc hs
    · refine mz_aload_n X dX12_stand_20 rfl (mz_at hl 0 rfl) ?_
      refine lv_iload_n X.1 X.2.1 dX12_stand_21 rfl (mz_at hl 3 rfl) ?_
      refine mz_kV Value.int X hH hS hl.1.1 [.int x3] [] hr (ct_X12_isClass l g h a0 x3) mb_RX12_138 rfl im_X12_isClass rfl (Nat.le_of_ble_eq_true rfl) ⟨Nat.le_of_ble_eq_true rfl, Nat.le_of_ble_eq_true rfl⟩ hc hs dX12_stand_22 rfl (fun v2 h H locs cells slots dc ds hr hH hS hc hs => ?_)
      refine mz_if_ne X 30 dX12_stand_25 (by decide) hr (fun hr => ?_) (fun hr => ?_)
      · exact pf_X12_stand_b30 r Y h a0 x1 x2 x3 _ _ hr H locs cells slots ls hH hS (mz_sub hl [0, 1, 2, 3] rfl) hc hs
      · refine lv_iconst (v := (-1)) X.1 X.2.1 dX12_stand_28 (by decide) ?_
        exact mz_iret Y dX12_stand_29 hH hS hc hs hr
set_option maxRecDepth 100000 in
theorem ct_X12_stand (l : Launch) (g : mz_G) (h : mz_H) (a0 : (Option Nat)) (x1 : Int32) (x2 : Int32) (x3 : Int32) (r : Int32) (hf : mz_H) (k n : Nat) (hr : fn_X12_stand h a0 x1 x2 x3 = some (r, hf, k, n)) : mz_C l g yX12_stand cX12_stand 4 (some .int) 2 43 [va_rf a0, .int x1, .int x2, .int x3] h (some (Value.int r)) hf k n := by
  refine mz_met (as := [(false, va_rf a0), (false, .int x1), (false, .int x2), (false, .int x3)]) (plainFor_of_name (by decide)) (mz_c1 (mz_cat_rf _) (mz_c1 rfl (mz_c1 rfl (mz_c1 rfl mz_c0)))) (Nat.le_of_ble_eq_true rfl) ?_
  intro p e s m args below meth c Y
  exact pf_X12_stand_b0 r Y h a0 x1 x2 x3 _ _ hr
end

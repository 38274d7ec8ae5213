/-! X11_faultOfStep X11_nextFrom X11_follow X11_twin X11_alike X11_find X11_columnSlot X11_column X11_cell X11_fold X11_at X11_isList X11_list X11_stand -/
section
variable {p : Program} {l : Launch} {e : Env} {s : State} {m : MethodId} {args : Array Value} {below : List Frame} {meth : Method} {c : Code} {g : mz_G} {h0 hf : mz_H} {DC DS : Nat}
theorem dX11_faultOfStep_0 : decode cX11_faultOfStep 0 = .ok (.aload_n 0, 1) := by decide +kernel
theorem dX11_faultOfStep_1 : decode cX11_faultOfStep 1 = .ok (.ifnonnull 7, 3) := by decide +kernel
theorem dX11_faultOfStep_4 : decode cX11_faultOfStep 4 = .ok (.aconst_null, 1) := by decide +kernel
theorem dX11_faultOfStep_5 : decode cX11_faultOfStep 5 = .ok (.goto 8, 3) := by decide +kernel
theorem dX11_faultOfStep_8 : decode cX11_faultOfStep 8 = .ok (.aload_n 0, 1) := by decide +kernel
theorem dX11_faultOfStep_9 : decode cX11_faultOfStep 9 = .ok (.iload_n 1, 1) := by decide +kernel
theorem dX11_faultOfStep_10 : decode cX11_faultOfStep 10 = .ok (.invokevirtual 384, 3) := by decide +kernel
theorem dX11_faultOfStep_13 : decode cX11_faultOfStep 13 = .ok (.astore_n 2, 1) := by decide +kernel
theorem dX11_faultOfStep_14 : decode cX11_faultOfStep 14 = .ok (.aload_n 2, 1) := by decide +kernel
theorem dX11_faultOfStep_15 : decode cX11_faultOfStep 15 = .ok (.ifnonnull 6, 3) := by decide +kernel
theorem dX11_faultOfStep_18 : decode cX11_faultOfStep 18 = .ok (.bipush 7, 2) := by decide +kernel
theorem dX11_faultOfStep_20 : decode cX11_faultOfStep 20 = .ok (.ireturn, 1) := by decide +kernel
theorem dX11_faultOfStep_21 : decode cX11_faultOfStep 21 = .ok (.aload_n 2, 1) := by decide +kernel
theorem dX11_faultOfStep_22 : decode cX11_faultOfStep 22 = .ok (.bipush 8, 2) := by decide +kernel
theorem dX11_faultOfStep_24 : decode cX11_faultOfStep 24 = .ok (.invokestatic 287, 3) := by decide +kernel
theorem dX11_faultOfStep_27 : decode cX11_faultOfStep 27 = .ok (.istore_n 3, 1) := by decide +kernel
theorem dX11_faultOfStep_28 : decode cX11_faultOfStep 28 = .ok (.iload_n 3, 1) := by decide +kernel
theorem dX11_faultOfStep_29 : decode cX11_faultOfStep 29 = .ok (.ifCond .ne 10, 3) := by decide +kernel
theorem dX11_faultOfStep_32 : decode cX11_faultOfStep 32 = .ok (.aload_n 2, 1) := by decide +kernel
theorem dX11_faultOfStep_33 : decode cX11_faultOfStep 33 = .ok (.iconst 0, 1) := by decide +kernel
theorem dX11_faultOfStep_34 : decode cX11_faultOfStep 34 = .ok (.iconst 0, 1) := by decide +kernel
theorem dX11_faultOfStep_35 : decode cX11_faultOfStep 35 = .ok (.invokevirtual 265, 3) := by decide +kernel
theorem dX11_faultOfStep_38 : decode cX11_faultOfStep 38 = .ok (.istore_n 3, 1) := by decide +kernel
theorem dX11_faultOfStep_39 : decode cX11_faultOfStep 39 = .ok (.iload_n 3, 1) := by decide +kernel
theorem dX11_faultOfStep_40 : decode cX11_faultOfStep 40 = .ok (.ifCond .eq 5, 3) := by decide +kernel
theorem dX11_faultOfStep_43 : decode cX11_faultOfStep 43 = .ok (.iload_n 3, 1) := by decide +kernel
theorem dX11_faultOfStep_44 : decode cX11_faultOfStep 44 = .ok (.ireturn, 1) := by decide +kernel
theorem dX11_faultOfStep_45 : decode cX11_faultOfStep 45 = .ok (.aload_n 2, 1) := by decide +kernel
theorem dX11_faultOfStep_46 : decode cX11_faultOfStep 46 = .ok (.iconst 0, 1) := by decide +kernel
theorem dX11_faultOfStep_47 : decode cX11_faultOfStep 47 = .ok (.iconst 0, 1) := by decide +kernel
theorem dX11_faultOfStep_48 : decode cX11_faultOfStep 48 = .ok (.invokevirtual 269, 3) := by decide +kernel
theorem dX11_faultOfStep_51 : decode cX11_faultOfStep 51 = .ok (.ldc2_w 387, 3) := by decide +kernel
theorem dX11_faultOfStep_54 : decode cX11_faultOfStep 54 = .ok (.lcmp, 1) := by decide +kernel
theorem dX11_faultOfStep_55 : decode cX11_faultOfStep 55 = .ok (.ifCond .ne 7, 3) := by decide +kernel
theorem dX11_faultOfStep_58 : decode cX11_faultOfStep 58 = .ok (.iconst 1, 1) := by decide +kernel
theorem dX11_faultOfStep_59 : decode cX11_faultOfStep 59 = .ok (.goto 4, 3) := by decide +kernel
theorem dX11_faultOfStep_62 : decode cX11_faultOfStep 62 = .ok (.iconst 0, 1) := by decide +kernel
theorem dX11_faultOfStep_63 : decode cX11_faultOfStep 63 = .ok (.ireturn, 1) := by decide +kernel
def fn_X11_faultOfStep_b39 (h : mz_H) (a2 : (Option Nat)) (x3 : Int32) : mz_Res Int32 :=
  if x3 = 0 then
    mz_chk (mz_is h a2 5) <| mz_call (fn_X6_cellAt h a2 0 0) fun v1 h =>
    if (lg_cmp v1 (-9)) = 0 then
      mz_ret 1 h
    else
      mz_ret 0 h
  else
    mz_ret x3 h
set_option maxHeartbeats 4000000 in
set_option maxRecDepth 100000 in
theorem pf_X11_faultOfStep_b39 (r : Int32) (Y : mz_Y p g RX11 cX11_faultOfStep 4 (some .int) "faultOfStep" (mz_AF h0) s m args meth c) (h : mz_H) (a2 : (Option Nat)) (x3 : Int32) (dc ds : Nat) (hr : fn_X11_faultOfStep_b39 h a2 x3 = some (r, hf, dc, ds)) : mz_Go l g p e s m args below meth c 2 45 DC DS h0 (some (Value.int r)) hf 4 39 [(2, false, va_rf a2), (3, false, .int x3)] [] h dc ds := by
  unfold fn_X11_faultOfStep_b39 at hr
  intro H locs cells slots ls hH hS hl hc hs
  have X := Y.1
  refine lv_iload_n X.1 X.2.1 dX11_faultOfStep_39 rfl (mz_at hl 1 rfl) ?_
  refine mz_if_eq X 45 dX11_faultOfStep_40 (by decide) hr (fun hr => ?_) (fun hr => ?_)
  · refine mz_aload_n X dX11_faultOfStep_45 rfl (mz_at hl 0 rfl) ?_
    refine lv_iconst (v := 0) X.1 X.2.1 dX11_faultOfStep_46 (by decide) ?_
    refine lv_iconst (v := 0) X.1 X.2.1 dX11_faultOfStep_47 (by decide) ?_
    refine mz_kV Value.long X hH hS hl.1.1 [.int 0, .int 0] [] hr (ct_X6_cellAt l g h a2 0 0) mb_RX11_269 rfl im_X6_cellAt rfl (Nat.le_of_ble_eq_true rfl) ⟨Nat.le_of_ble_eq_true rfl, Nat.le_of_ble_eq_true rfl⟩ hc hs dX11_faultOfStep_48 rfl (fun v1 h H locs cells slots dc ds hr hH hS hc hs => ?_)
    refine mz_ldc2 (v := (-9)) X (mz_tb 763 (by decide +kernel) rfl) dX11_faultOfStep_51 ?_
    refine W.lcmp X.1 X.2.1 dX11_faultOfStep_54 ?_
    refine mz_if_ne X 62 dX11_faultOfStep_55 (by decide) hr (fun hr => ?_) (fun hr => ?_)
    · refine lv_iconst (v := 0) X.1 X.2.1 dX11_faultOfStep_62 (by decide) ?_
      exact mz_iret Y dX11_faultOfStep_63 hH hS hc hs hr
    · refine lv_iconst (v := 1) X.1 X.2.1 dX11_faultOfStep_58 (by decide) ?_
      refine lv_goto (tgt := 63) X.1 X.2.1 dX11_faultOfStep_59 (by decide) ?_
      exact mz_iret Y dX11_faultOfStep_63 hH hS hc hs hr
  · refine lv_iload_n X.1 X.2.1 dX11_faultOfStep_43 rfl (mz_at hl 1 rfl) ?_
    exact mz_iret Y dX11_faultOfStep_44 hH hS hc hs hr
def fn_X11_faultOfStep_b13 (h : mz_H) (s0 : (Option Nat)) : mz_Res Int32 :=
  if s0 = none then
    mz_ret 7 h
  else
    mz_call (fn_X11_faultOfRow h s0 8) fun v1 h =>
    if v1 = 0 then
      mz_chk (mz_is h s0 5) <| mz_call (fn_X6_faultAt h s0 0 0) fun v2 h =>
      fn_X11_faultOfStep_b39 h s0 v2
    else
      fn_X11_faultOfStep_b39 h s0 v1
set_option maxHeartbeats 4000000 in
set_option maxRecDepth 100000 in
theorem pf_X11_faultOfStep_b13 (r : Int32) (Y : mz_Y p g RX11 cX11_faultOfStep 4 (some .int) "faultOfStep" (mz_AF h0) s m args meth c) (h : mz_H) (s0 : (Option Nat)) (dc ds : Nat) (hr : fn_X11_faultOfStep_b13 h s0 = some (r, hf, dc, ds)) : mz_Go l g p e s m args below meth c 2 45 DC DS h0 (some (Value.int r)) hf 4 13 [] [va_rf s0] h dc ds := by
  unfold fn_X11_faultOfStep_b13 at hr
  intro H locs cells slots ls hH hS hl hc hs
  have X := Y.1
  refine mz_astore_n X [(2, false, va_rf s0)] dX11_faultOfStep_13 rfl hl (by decide) rfl (fun ls hl => ?_)
  refine mz_aload_n X dX11_faultOfStep_14 rfl (mz_at hl 0 rfl) ?_
  refine mz_ifnonnull X 21 dX11_faultOfStep_15 (by decide) hr (fun hr => ?_) (fun hr => ?_)
  · refine mz_aload_n X dX11_faultOfStep_21 rfl (mz_at hl 0 rfl) ?_
    refine lv_bipush (v := 8) X.1 X.2.1 dX11_faultOfStep_22 (by decide) ?_
    refine mz_kS Value.int X hH hS hl.1.1 [va_rf s0, .int 8] [] hr (ct_X11_faultOfRow l g h s0 8) mb_RX11_287 im_X11_faultOfRow rfl (Nat.le_of_ble_eq_true rfl) ⟨Nat.le_of_ble_eq_true rfl, Nat.le_of_ble_eq_true rfl⟩ hc hs dX11_faultOfStep_24 rfl (fun v1 h H locs cells slots dc ds hr hH hS hc hs => ?_)
    refine mz_istore_n X [(3, false, .int v1), (2, false, va_rf s0)] dX11_faultOfStep_27 rfl hl (by decide) rfl (fun ls hl => ?_)
    refine lv_iload_n X.1 X.2.1 dX11_faultOfStep_28 rfl (mz_at hl 0 rfl) ?_
    refine mz_if_ne X 39 dX11_faultOfStep_29 (by decide) hr (fun hr => ?_) (fun hr => ?_)
    · exact pf_X11_faultOfStep_b39 r Y h s0 v1 _ _ hr H locs cells slots ls hH hS (mz_sub hl [1, 0] rfl) hc hs
    · refine mz_aload_n X dX11_faultOfStep_32 rfl (mz_at hl 1 rfl) ?_
      refine lv_iconst (v := 0) X.1 X.2.1 dX11_faultOfStep_33 (by decide) ?_
      refine lv_iconst (v := 0) X.1 X.2.1 dX11_faultOfStep_34 (by decide) ?_
      refine mz_kV Value.int X hH hS hl.1.1 [.int 0, .int 0] [] hr (ct_X6_faultAt l g h s0 0 0) mb_RX11_265 rfl im_X6_faultAt rfl (Nat.le_of_ble_eq_true rfl) ⟨Nat.le_of_ble_eq_true rfl, Nat.le_of_ble_eq_true rfl⟩ hc hs dX11_faultOfStep_35 rfl (fun v2 h H locs cells slots dc ds hr hH hS hc hs => ?_)
      refine mz_istore_n X [(3, false, .int v2), (2, false, va_rf s0)] dX11_faultOfStep_38 rfl hl (by decide) rfl (fun ls hl => ?_)
      exact pf_X11_faultOfStep_b39 r Y h s0 v2 _ _ hr H locs cells slots ls hH hS (mz_sub hl [1, 0] rfl) hc hs
  · refine lv_bipush (v := 7) X.1 X.2.1 dX11_faultOfStep_18 (by decide) ?_
    exact mz_iret Y dX11_faultOfStep_20 hH hS hc hs hr
def fn_X11_faultOfStep (h : mz_H) (a0 : (Option Nat)) (x1 : Int32) : mz_Res Int32 :=
  if a0 = none then
    fn_X11_faultOfStep_b13 h none
  else
    mz_chk (mz_is h a0 7) <| mz_call (fn_X8_slotNamed h a0 x1) fun v1 h =>
    fn_X11_faultOfStep_b13 h v1
set_option maxHeartbeats 4000000 in
set_option maxRecDepth 100000 in
theorem pf_X11_faultOfStep_b0 (r : Int32) (Y : mz_Y p g RX11 cX11_faultOfStep 4 (some .int) "faultOfStep" (mz_AF h0) s m args meth c) (h : mz_H) (a0 : (Option Nat)) (x1 : Int32) (dc ds : Nat) (hr : fn_X11_faultOfStep h a0 x1 = some (r, hf, dc, ds)) : mz_Go l g p e s m args below meth c 2 45 DC DS h0 (some (Value.int r)) hf 4 0 [(0, false, va_rf a0), (1, false, .int x1)] [] h dc ds := by
  unfold fn_X11_faultOfStep at hr
  intro H locs cells slots ls hH hS hl hc hs
  have X := Y.1
  refine mz_aload_n X dX11_faultOfStep_0 rfl (mz_at hl 0 rfl) ?_
  refine mz_ifnonnull X 8 dX11_faultOfStep_1 (by decide) hr (fun hr => ?_) (fun hr => ?_)
  · refine mz_aload_n X dX11_faultOfStep_8 rfl (mz_at hl 0 rfl) ?_
    refine lv_iload_n X.1 X.2.1 dX11_faultOfStep_9 rfl (mz_at hl 1 rfl) ?_
    refine mz_kV va_rf X hH hS hl.1.1 [.int x1] [] hr (ct_X8_slotNamed l g h a0 x1) mb_RX11_384 rfl im_X8_slotNamed rfl (Nat.le_of_ble_eq_true rfl) ⟨Nat.le_of_ble_eq_true rfl, Nat.le_of_ble_eq_true rfl⟩ hc hs dX11_faultOfStep_10 rfl (fun v1 h H locs cells slots dc ds hr hH hS hc hs => ?_)
    exact pf_X11_faultOfStep_b13 r Y h v1 _ _ hr H locs cells slots ls hH hS (mz_sub hl [] rfl) hc hs
  · refine mz_null X dX11_faultOfStep_4 ?_
    refine lv_goto (tgt := 13) X.1 X.2.1 dX11_faultOfStep_5 (by decide) ?_
    exact pf_X11_faultOfStep_b13 r Y h none _ _ hr H locs cells slots ls hH hS (mz_sub hl [] rfl) hc hs
set_option maxRecDepth 100000 in
theorem ct_X11_faultOfStep (l : Launch) (g : mz_G) (h : mz_H) (a0 : (Option Nat)) (x1 : Int32) (r : Int32) (hf : mz_H) (k n : Nat) (hr : fn_X11_faultOfStep h a0 x1 = some (r, hf, k, n)) : mz_C l g yX11_faultOfStep cX11_faultOfStep 4 (some .int) 2 45 [va_rf a0, .int x1] h (some (Value.int r)) hf k n := by
  refine mz_met (as := [(false, va_rf a0), (false, .int x1)]) (plainFor_of_name (by decide)) (mz_c1 (mz_cat_rf _) (mz_c1 rfl mz_c0)) (Nat.le_of_ble_eq_true rfl) ?_
  intro p e s m args below meth c Y
  exact pf_X11_faultOfStep_b0 r Y h a0 x1 _ _ hr
theorem dX11_nextFrom_0 : decode cX11_nextFrom 0 = .ok (.aload_n 0, 1) := by decide +kernel
theorem dX11_nextFrom_1 : decode cX11_nextFrom 1 = .ok (.ifnonnull 7, 3) := by decide +kernel
theorem dX11_nextFrom_4 : decode cX11_nextFrom 4 = .ok (.aconst_null, 1) := by decide +kernel
theorem dX11_nextFrom_5 : decode cX11_nextFrom 5 = .ok (.goto 8, 3) := by decide +kernel
theorem dX11_nextFrom_8 : decode cX11_nextFrom 8 = .ok (.aload_n 0, 1) := by decide +kernel
theorem dX11_nextFrom_9 : decode cX11_nextFrom 9 = .ok (.iload_n 1, 1) := by decide +kernel
theorem dX11_nextFrom_10 : decode cX11_nextFrom 10 = .ok (.invokevirtual 384, 3) := by decide +kernel
theorem dX11_nextFrom_13 : decode cX11_nextFrom 13 = .ok (.astore_n 2, 1) := by decide +kernel
theorem dX11_nextFrom_14 : decode cX11_nextFrom 14 = .ok (.aload_n 2, 1) := by decide +kernel
theorem dX11_nextFrom_15 : decode cX11_nextFrom 15 = .ok (.ifnonnull 8, 3) := by decide +kernel
theorem dX11_nextFrom_18 : decode cX11_nextFrom 18 = .ok (.bipush (-9), 2) := by decide +kernel
theorem dX11_nextFrom_20 : decode cX11_nextFrom 20 = .ok (.goto 10, 3) := by decide +kernel
theorem dX11_nextFrom_23 : decode cX11_nextFrom 23 = .ok (.aload_n 2, 1) := by decide +kernel
theorem dX11_nextFrom_24 : decode cX11_nextFrom 24 = .ok (.iconst 0, 1) := by decide +kernel
theorem dX11_nextFrom_25 : decode cX11_nextFrom 25 = .ok (.iconst 0, 1) := by decide +kernel
theorem dX11_nextFrom_26 : decode cX11_nextFrom 26 = .ok (.invokevirtual 269, 3) := by decide +kernel
theorem dX11_nextFrom_29 : decode cX11_nextFrom 29 = .ok (.l2i, 1) := by decide +kernel
theorem dX11_nextFrom_30 : decode cX11_nextFrom 30 = .ok (.ireturn, 1) := by decide +kernel
def fn_X11_nextFrom_b13 (h : mz_H) (s0 : (Option Nat)) : mz_Res Int32 :=
  if s0 = none then
    mz_ret (-9) h
  else
    mz_chk (mz_is h s0 5) <| mz_call (fn_X6_cellAt h s0 0 0) fun v1 h =>
    mz_ret ((v1 : Int64).toInt32) h
set_option maxHeartbeats 4000000 in
set_option maxRecDepth 100000 in
theorem pf_X11_nextFrom_b13 (r : Int32) (Y : mz_Y p g RX11 cX11_nextFrom 3 (some .int) "nextFrom" (mz_AF h0) s m args meth c) (h : mz_H) (s0 : (Option Nat)) (dc ds : Nat) (hr : fn_X11_nextFrom_b13 h s0 = some (r, hf, dc, ds)) : mz_Go l g p e s m args below meth c 2 45 DC DS h0 (some (Value.int r)) hf 3 13 [] [va_rf s0] h dc ds := by
  unfold fn_X11_nextFrom_b13 at hr
  intro H locs cells slots ls hH hS hl hc hs
  have X := Y.1
  refine mz_astore_n X [(2, false, va_rf s0)] dX11_nextFrom_13 rfl hl (by decide) rfl (fun ls hl => ?_)
  refine mz_aload_n X dX11_nextFrom_14 rfl (mz_at hl 0 rfl) ?_
  refine mz_ifnonnull X 23 dX11_nextFrom_15 (by decide) hr (fun hr => ?_) (fun hr => ?_)
  · refine mz_aload_n X dX11_nextFrom_23 rfl (mz_at hl 0 rfl) ?_
    refine lv_iconst (v := 0) X.1 X.2.1 dX11_nextFrom_24 (by decide) ?_
    refine lv_iconst (v := 0) X.1 X.2.1 dX11_nextFrom_25 (by decide) ?_
    refine mz_kV Value.long X hH hS hl.1.1 [.int 0, .int 0] [] hr (ct_X6_cellAt l g h s0 0 0) mb_RX11_269 rfl im_X6_cellAt rfl (Nat.le_of_ble_eq_true rfl) ⟨Nat.le_of_ble_eq_true rfl, Nat.le_of_ble_eq_true rfl⟩ hc hs dX11_nextFrom_26 rfl (fun v1 h H locs cells slots dc ds hr hH hS hc hs => ?_)
    refine lv_l2i (v := ((v1 : Int64).toInt32)) X.1 X.2.1 dX11_nextFrom_29 rfl ?_
    exact mz_iret Y dX11_nextFrom_30 hH hS hc hs hr
  · refine lv_bipush (v := (-9)) X.1 X.2.1 dX11_nextFrom_18 (by decide) ?_
    refine lv_goto (tgt := 30) X.1 X.2.1 dX11_nextFrom_20 (by decide) ?_
    exact mz_iret Y dX11_nextFrom_30 hH hS hc hs hr
def fn_X11_nextFrom (h : mz_H) (a0 : (Option Nat)) (x1 : Int32) : mz_Res Int32 :=
  if a0 = none then
    fn_X11_nextFrom_b13 h none
  else
    mz_chk (mz_is h a0 7) <| mz_call (fn_X8_slotNamed h a0 x1) fun v1 h =>
    fn_X11_nextFrom_b13 h v1
set_option maxHeartbeats 4000000 in
set_option maxRecDepth 100000 in
theorem pf_X11_nextFrom_b0 (r : Int32) (Y : mz_Y p g RX11 cX11_nextFrom 3 (some .int) "nextFrom" (mz_AF h0) s m args meth c) (h : mz_H) (a0 : (Option Nat)) (x1 : Int32) (dc ds : Nat) (hr : fn_X11_nextFrom h a0 x1 = some (r, hf, dc, ds)) : mz_Go l g p e s m args below meth c 2 45 DC DS h0 (some (Value.int r)) hf 3 0 [(0, false, va_rf a0), (1, false, .int x1)] [] h dc ds := by
  unfold fn_X11_nextFrom at hr
  intro H locs cells slots ls hH hS hl hc hs
  have X := Y.1
  refine mz_aload_n X dX11_nextFrom_0 rfl (mz_at hl 0 rfl) ?_
  refine mz_ifnonnull X 8 dX11_nextFrom_1 (by decide) hr (fun hr => ?_) (fun hr => ?_)
  · refine mz_aload_n X dX11_nextFrom_8 rfl (mz_at hl 0 rfl) ?_
    refine lv_iload_n X.1 X.2.1 dX11_nextFrom_9 rfl (mz_at hl 1 rfl) ?_
    refine mz_kV va_rf X hH hS hl.1.1 [.int x1] [] hr (ct_X8_slotNamed l g h a0 x1) mb_RX11_384 rfl im_X8_slotNamed rfl (Nat.le_of_ble_eq_true rfl) ⟨Nat.le_of_ble_eq_true rfl, Nat.le_of_ble_eq_true rfl⟩ hc hs dX11_nextFrom_10 rfl (fun v1 h H locs cells slots dc ds hr hH hS hc hs => ?_)
    exact pf_X11_nextFrom_b13 r Y h v1 _ _ hr H locs cells slots ls hH hS (mz_sub hl [] rfl) hc hs
  · refine mz_null X dX11_nextFrom_4 ?_
    refine lv_goto (tgt := 13) X.1 X.2.1 dX11_nextFrom_5 (by decide) ?_
    exact pf_X11_nextFrom_b13 r Y h none _ _ hr H locs cells slots ls hH hS (mz_sub hl [] rfl) hc hs
set_option maxRecDepth 100000 in
theorem ct_X11_nextFrom (l : Launch) (g : mz_G) (h : mz_H) (a0 : (Option Nat)) (x1 : Int32) (r : Int32) (hf : mz_H) (k n : Nat) (hr : fn_X11_nextFrom h a0 x1 = some (r, hf, k, n)) : mz_C l g yX11_nextFrom cX11_nextFrom 3 (some .int) 2 45 [va_rf a0, .int x1] h (some (Value.int r)) hf k n := by
  refine mz_met (as := [(false, va_rf a0), (false, .int x1)]) (plainFor_of_name (by decide)) (mz_c1 (mz_cat_rf _) (mz_c1 rfl mz_c0)) (Nat.le_of_ble_eq_true rfl) ?_
  intro p e s m args below meth c Y
  exact pf_X11_nextFrom_b0 r Y h a0 x1 _ _ hr
theorem dX11_follow_0 : decode cX11_follow 0 = .ok (.aload_n 0, 1) := by decide +kernel
theorem dX11_follow_1 : decode cX11_follow 1 = .ok (.iconst 0, 1) := by decide +kernel
theorem dX11_follow_2 : decode cX11_follow 2 = .ok (.putfield 185, 3) := by decide +kernel
theorem dX11_follow_5 : decode cX11_follow 5 = .ok (.aload_n 0, 1) := by decide +kernel
theorem dX11_follow_6 : decode cX11_follow 6 = .ok (.iload_n 1, 1) := by decide +kernel
theorem dX11_follow_7 : decode cX11_follow 7 = .ok (.invokevirtual 212, 3) := by decide +kernel
theorem dX11_follow_10 : decode cX11_follow 10 = .ok (.ifnonnull 5, 3) := by decide +kernel
theorem dX11_follow_13 : decode cX11_follow 13 = .ok (.iconst (-1), 1) := by decide +kernel
theorem dX11_follow_14 : decode cX11_follow 14 = .ok (.ireturn, 1) := by decide +kernel
theorem dX11_follow_15 : decode cX11_follow 15 = .ok (.iload_n 2, 1) := by decide +kernel
theorem dX11_follow_16 : decode cX11_follow 16 = .ok (.invokestatic 99, 3) := by decide +kernel
theorem dX11_follow_19 : decode cX11_follow 19 = .ok (.ifCond .eq 13, 3) := by decide +kernel
theorem dX11_follow_22 : decode cX11_follow 22 = .ok (.iload_n 3, 1) := by decide +kernel
theorem dX11_follow_23 : decode cX11_follow 23 = .ok (.ifCond .lt 9, 3) := by decide +kernel
theorem dX11_follow_26 : decode cX11_follow 26 = .ok (.iload_n 3, 1) := by decide +kernel
theorem dX11_follow_27 : decode cX11_follow 27 = .ok (.bipush 20, 2) := by decide +kernel
theorem dX11_follow_29 : decode cX11_follow 29 = .ok (.if_icmp .le 6, 3) := by decide +kernel
theorem dX11_follow_32 : decode cX11_follow 32 = .ok (.bipush (-2), 2) := by decide +kernel
theorem dX11_follow_34 : decode cX11_follow 34 = .ok (.ireturn, 1) := by decide +kernel
theorem dX11_follow_35 : decode cX11_follow 35 = .ok (.iload_n 1, 1) := by decide +kernel
theorem dX11_follow_36 : decode cX11_follow 36 = .ok (.istore 4, 2) := by decide +kernel
theorem dX11_follow_38 : decode cX11_follow 38 = .ok (.iconst 0, 1) := by decide +kernel
theorem dX11_follow_39 : decode cX11_follow 39 = .ok (.istore 5, 2) := by decide +kernel
theorem dX11_follow_41 : decode cX11_follow 41 = .ok (.iload 5, 2) := by decide +kernel
theorem dX11_follow_43 : decode cX11_follow 43 = .ok (.iload_n 3, 1) := by decide +kernel
theorem dX11_follow_44 : decode cX11_follow 44 = .ok (.if_icmp .ge 45, 3) := by decide +kernel
theorem dX11_follow_47 : decode cX11_follow 47 = .ok (.aload_n 0, 1) := by decide +kernel
theorem dX11_follow_48 : decode cX11_follow 48 = .ok (.iload 4, 2) := by decide +kernel
theorem dX11_follow_50 : decode cX11_follow 50 = .ok (.invokevirtual 212, 3) := by decide +kernel
theorem dX11_follow_53 : decode cX11_follow 53 = .ok (.iload_n 2, 1) := by decide +kernel
theorem dX11_follow_54 : decode cX11_follow 54 = .ok (.invokestatic 311, 3) := by decide +kernel
theorem dX11_follow_57 : decode cX11_follow 57 = .ok (.istore 6, 2) := by decide +kernel
theorem dX11_follow_59 : decode cX11_follow 59 = .ok (.iload 6, 2) := by decide +kernel
theorem dX11_follow_61 : decode cX11_follow 61 = .ok (.ifCond .eq 10, 3) := by decide +kernel
theorem dX11_follow_64 : decode cX11_follow 64 = .ok (.aload_n 0, 1) := by decide +kernel
theorem dX11_follow_65 : decode cX11_follow 65 = .ok (.iload 6, 2) := by decide +kernel
theorem dX11_follow_67 : decode cX11_follow 67 = .ok (.invokevirtual 195, 3) := by decide +kernel
theorem dX11_follow_70 : decode cX11_follow 70 = .ok (.ireturn, 1) := by decide +kernel
theorem dX11_follow_71 : decode cX11_follow 71 = .ok (.aload_n 0, 1) := by decide +kernel
theorem dX11_follow_72 : decode cX11_follow 72 = .ok (.iload 4, 2) := by decide +kernel
theorem dX11_follow_74 : decode cX11_follow 74 = .ok (.invokevirtual 212, 3) := by decide +kernel
theorem dX11_follow_77 : decode cX11_follow 77 = .ok (.iload_n 2, 1) := by decide +kernel
theorem dX11_follow_78 : decode cX11_follow 78 = .ok (.invokestatic 315, 3) := by decide +kernel
theorem dX11_follow_81 : decode cX11_follow 81 = .ok (.istore 4, 2) := by decide +kernel
theorem dX11_follow_83 : decode cX11_follow 83 = .ok (.iinc 5 1, 3) := by decide +kernel
theorem dX11_follow_86 : decode cX11_follow 86 = .ok (.goto (-45), 3) := by decide +kernel
theorem dX11_follow_89 : decode cX11_follow 89 = .ok (.iload 4, 2) := by decide +kernel
theorem dX11_follow_91 : decode cX11_follow 91 = .ok (.ireturn, 1) := by decide +kernel
def fn_X11_follow_b41 : Nat → mz_H → (Option Nat) → Int32 → Int32 → Int32 → Int32 → mz_Res Int32
  | 0, _, _, _, _, _, _ => none
  | n + 1, h, a0, x2, x3, x4, x5 =>
    if x3 ≤ x5 then
      mz_ret x4 h
    else
      mz_chk (mz_is h a0 10) <| mz_call (fn_X11_thingOf h a0 x4) fun v1 h =>
      mz_call (fn_X11_faultOfStep h v1 x2) fun v2 h =>
      if v2 = 0 then
        mz_chk (mz_is h a0 10) <| mz_call (fn_X11_thingOf h a0 x4) fun v3 h =>
        mz_call (fn_X11_nextFrom h v3 x2) fun v4 h =>
        mz_op (some (x5 + 1)) fun v5 =>
        fn_X11_follow_b41 n h a0 x2 x3 v4 v5
      else
        mz_chk (mz_is h a0 10) <| mz_call (fn_X11_comeTo h a0 v2) fun v6 h =>
        mz_ret v6 h
set_option maxHeartbeats 4000000 in
set_option maxRecDepth 100000 in
theorem pf_X11_follow_b41 (r : Int32) (Y : mz_Y p g RX11 cX11_follow 7 (some .int) "follow" (mz_AF h0) s m args meth c) : ∀ (n : Nat) (h : mz_H) (a0 : (Option Nat)) (x2 : Int32) (x3 : Int32) (x4 : Int32) (x5 : Int32) (dc ds : Nat), fn_X11_follow_b41 n h a0 x2 x3 x4 x5 = some (r, hf, dc, ds) → mz_Go l g p e s m args below meth c 3 68 DC DS h0 (some (Value.int r)) hf 7 41 [(0, false, va_rf a0), (2, false, .int x2), (3, false, .int x3), (4, false, .int x4), (5, false, .int x5)] [] h dc ds := by
  have X := Y.1
  intro n
  induction n with
  | zero => intro h a0 x2 x3 x4 x5 dc ds hr; simp [fn_X11_follow_b41] at hr
  | succ n ih =>
    intro h a0 x2 x3 x4 x5 dc ds hr
    rw [fn_X11_follow_b41] at hr
    intro H locs cells slots ls hH hS hl hc hs
    refine lv_iload X.1 X.2.1 dX11_follow_41 (mz_at hl 4 rfl) ?_
    refine lv_iload_n X.1 X.2.1 dX11_follow_43 rfl (mz_at hl 2 rfl) ?_
    refine mz_icmp_ge X 89 dX11_follow_44 (by decide) hr (fun hr => ?_) (fun hr => ?_)
    · refine lv_iload X.1 X.2.1 dX11_follow_89 (mz_at hl 3 rfl) ?_
      exact mz_iret Y dX11_follow_91 hH hS hc hs hr
    · refine mz_aload_n X dX11_follow_47 rfl (mz_at hl 0 rfl) ?_
      refine lv_iload X.1 X.2.1 dX11_follow_48 (mz_at hl 3 rfl) ?_
      refine mz_kV va_rf X hH hS hl.1.1 [.int x4] [] hr (ct_X11_thingOf l g h a0 x4) mb_RX11_212 rfl im_X11_thingOf rfl (Nat.le_of_ble_eq_true rfl) ⟨Nat.le_of_ble_eq_true rfl, Nat.le_of_ble_eq_true rfl⟩ hc hs dX11_follow_50 rfl (fun v1 h H locs cells slots dc ds hr hH hS hc hs => ?_)
      refine lv_iload_n X.1 X.2.1 dX11_follow_53 rfl (mz_at hl 1 rfl) ?_
      refine mz_kS Value.int X hH hS hl.1.1 [va_rf v1, .int x2] [] hr (ct_X11_faultOfStep l g h v1 x2) mb_RX11_311 im_X11_faultOfStep rfl (Nat.le_of_ble_eq_true rfl) ⟨Nat.le_of_ble_eq_true rfl, Nat.le_of_ble_eq_true rfl⟩ hc hs dX11_follow_54 rfl (fun v2 h H locs cells slots dc ds hr hH hS hc hs => ?_)
      refine mz_istore X [(6, false, .int v2), (0, false, va_rf a0), (2, false, .int x2), (3, false, .int x3), (4, false, .int x4), (5, false, .int x5)] dX11_follow_57 hl (by decide) rfl (fun ls hl => ?_)
      refine lv_iload X.1 X.2.1 dX11_follow_59 (mz_at hl 0 rfl) ?_
      refine mz_if_eq X 71 dX11_follow_61 (by decide) hr (fun hr => ?_) (fun hr => ?_)
      · refine mz_aload_n X dX11_follow_71 rfl (mz_at hl 1 rfl) ?_
        refine lv_iload X.1 X.2.1 dX11_follow_72 (mz_at hl 4 rfl) ?_
        refine mz_kV va_rf X hH hS hl.1.1 [.int x4] [] hr (ct_X11_thingOf l g h a0 x4) mb_RX11_212 rfl im_X11_thingOf rfl (Nat.le_of_ble_eq_true rfl) ⟨Nat.le_of_ble_eq_true rfl, Nat.le_of_ble_eq_true rfl⟩ hc hs dX11_follow_74 rfl (fun v3 h H locs cells slots dc ds hr hH hS hc hs => ?_)
        refine lv_iload_n X.1 X.2.1 dX11_follow_77 rfl (mz_at hl 2 rfl) ?_
        refine mz_kS Value.int X hH hS hl.1.1 [va_rf v3, .int x2] [] hr (ct_X11_nextFrom l g h v3 x2) mb_RX11_315 im_X11_nextFrom rfl (Nat.le_of_ble_eq_true rfl) ⟨Nat.le_of_ble_eq_true rfl, Nat.le_of_ble_eq_true rfl⟩ hc hs dX11_follow_78 rfl (fun v4 h H locs cells slots dc ds hr hH hS hc hs => ?_)
        refine mz_istore X [(4, false, .int v4), (6, false, .int v2), (0, false, va_rf a0), (2, false, .int x2), (3, false, .int x3), (5, false, .int x5)] dX11_follow_81 hl (by decide) rfl (fun ls hl => ?_)
        obtain ⟨v5, hv5, hr⟩ := mz_op_some hr
        have hv5 := Option.some.inj hv5
        refine mz_iinc (k := 5) X [(5, false, .int v5), (4, false, .int v4), (6, false, .int v2), (0, false, va_rf a0), (2, false, .int x2), (3, false, .int x3)] v5 dX11_follow_83 hl rfl hv5 (by decide) rfl (fun ls hl => ?_)
        refine lv_goto (tgt := 41) X.1 X.2.1 dX11_follow_86 (by decide) ?_
        exact ih h a0 x2 x3 v4 v5 _ _ hr H locs cells slots ls hH hS (mz_sub hl [3, 4, 5, 1, 0] rfl) hc hs
      · refine mz_aload_n X dX11_follow_64 rfl (mz_at hl 1 rfl) ?_
        refine lv_iload X.1 X.2.1 dX11_follow_65 (mz_at hl 0 rfl) ?_
        refine mz_kV Value.int X hH hS hl.1.1 [.int v2] [] hr (ct_X11_comeTo l g h a0 v2) mb_RX11_195 rfl im_X11_comeTo rfl (Nat.le_of_ble_eq_true rfl) ⟨Nat.le_of_ble_eq_true rfl, Nat.le_of_ble_eq_true rfl⟩ hc hs dX11_follow_67 rfl (fun v6 h H locs cells slots dc ds hr hH hS hc hs => ?_)
        exact mz_iret Y dX11_follow_70 hH hS hc hs hr
def fn_X11_follow (h : mz_H) (a0 : (Option Nat)) (x1 : Int32) (x2 : Int32) (x3 : Int32) : mz_Res Int32 :=
  mz_op (mz_pF h a0 10 8 (Value.int 0)) fun h =>
  mz_chk (mz_is h a0 10) <| mz_call (fn_X11_thingOf h a0 x1) fun v1 h =>
  if v1 = none then
    mz_ret (-1) h
  else
    mz_call (fn_X11_isName h x2) fun v2 h =>
    if v2 = 0 then
      mz_ret (-2) h
    else
      if x3 < 0 then
        mz_ret (-2) h
      else
        if x3 ≤ 20 then
          fn_X11_follow_b41 1001 h a0 x2 x3 x1 0
        else
          mz_ret (-2) h
set_option maxHeartbeats 4000000 in
set_option maxRecDepth 100000 in
theorem pf_X11_follow_b0 (r : Int32) (Y : mz_Y p g RX11 cX11_follow 7 (some .int) "follow" (mz_AF h0) s m args meth c) (h : mz_H) (a0 : (Option Nat)) (x1 : Int32) (x2 : Int32) (x3 : Int32) (dc ds : Nat) (hr : fn_X11_follow h a0 x1 x2 x3 = some (r, hf, dc, ds)) : mz_Go l g p e s m args below meth c 3 68 DC DS h0 (some (Value.int r)) hf 7 0 [(0, false, va_rf a0), (1, false, .int x1), (2, false, .int x2), (3, false, .int x3)] [] h dc ds := by
  unfold fn_X11_follow at hr
  intro H locs cells slots ls hH hS hl hc hs
  have X := Y.1
  refine mz_aload_n X dX11_follow_0 rfl (mz_at hl 0 rfl) ?_
  refine lv_iconst (v := 0) X.1 X.2.1 dX11_follow_1 (by decide) ?_
  refine mz_put X hH hS fp_RX11_185 dX11_follow_2 rfl rfl hr (fun h H locs hr hH hS => ?_)
  refine mz_aload_n X dX11_follow_5 rfl (mz_at hl 0 rfl) ?_
  refine lv_iload_n X.1 X.2.1 dX11_follow_6 rfl (mz_at hl 1 rfl) ?_
  refine mz_kV va_rf X hH hS hl.1.1 [.int x1] [] hr (ct_X11_thingOf l g h a0 x1) mb_RX11_212 rfl im_X11_thingOf rfl (Nat.le_of_ble_eq_true rfl) ⟨Nat.le_of_ble_eq_true rfl, Nat.le_of_ble_eq_true rfl⟩ hc hs dX11_follow_7 rfl (fun v1 h H locs cells slots dc ds hr hH hS hc hs => ?_)
  refine mz_ifnonnull X 15 dX11_follow_10 (by decide) hr (fun hr => ?_) (fun hr => ?_)
  · refine lv_iload_n X.1 X.2.1 dX11_follow_15 rfl (mz_at hl 2 rfl) ?_
    refine mz_kS Value.int X hH hS hl.1.1 [.int x2] [] hr (ct_X11_isName l g h x2) mb_RX11_99 im_X11_isName rfl (Nat.le_of_ble_eq_true rfl) ⟨Nat.le_of_ble_eq_true rfl, Nat.le_of_ble_eq_true rfl⟩ hc hs dX11_follow_16 rfl (fun v2 h H locs cells slots dc ds hr hH hS hc hs => ?_)
    refine mz_if_eq X 32 dX11_follow_19 (by decide) hr (fun hr => ?_) (fun hr => ?_)
    · refine lv_bipush (v := (-2)) X.1 X.2.1 dX11_follow_32 (by decide) ?_
      exact mz_iret Y dX11_follow_34 hH hS hc hs hr
    · refine lv_iload_n X.1 X.2.1 dX11_follow_22 rfl (mz_at hl 3 rfl) ?_
      refine mz_if_lt X 32 dX11_follow_23 (by decide) hr (fun hr => ?_) (fun hr => ?_)
      · refine lv_bipush (v := (-2)) X.1 X.2.1 dX11_follow_32 (by decide) ?_
        exact mz_iret Y dX11_follow_34 hH hS hc hs hr
      · refine lv_iload_n X.1 X.2.1 dX11_follow_26 rfl (mz_at hl 3 rfl) ?_
        refine lv_bipush (v := 20) X.1 X.2.1 dX11_follow_27 (by decide) ?_
        refine mz_icmp_le X 35 dX11_follow_29 (by decide) hr (fun hr => ?_) (fun hr => ?_)
        · refine lv_iload_n X.1 X.2.1 dX11_follow_35 rfl (mz_at hl 1 rfl) ?_
          refine mz_istore X [(4, false, .int x1), (0, false, va_rf a0), (1, false, .int x1), (2, false, .int x2), (3, false, .int x3)] dX11_follow_36 hl (by decide) rfl (fun ls hl => ?_)
          refine lv_iconst (v := 0) X.1 X.2.1 dX11_follow_38 (by decide) ?_
          refine mz_istore X [(5, false, .int 0), (4, false, .int x1), (0, false, va_rf a0), (1, false, .int x1), (2, false, .int x2), (3, false, .int x3)] dX11_follow_39 hl (by decide) rfl (fun ls hl => ?_)
          exact pf_X11_follow_b41 r Y 1001 h a0 x2 x3 x1 0 _ _ hr H locs cells slots ls hH hS (mz_sub hl [2, 4, 5, 1, 0] rfl) hc hs
        · refine lv_bipush (v := (-2)) X.1 X.2.1 dX11_follow_32 (by decide) ?_
          exact mz_iret Y dX11_follow_34 hH hS hc hs hr
  · refine lv_iconst (v := (-1)) X.1 X.2.1 dX11_follow_13 (by decide) ?_
    exact mz_iret Y dX11_follow_14 hH hS hc hs hr
set_option maxRecDepth 100000 in
theorem ct_X11_follow (l : Launch) (g : mz_G) (h : mz_H) (a0 : (Option Nat)) (x1 : Int32) (x2 : Int32) (x3 : Int32) (r : Int32) (hf : mz_H) (k n : Nat) (hr : fn_X11_follow h a0 x1 x2 x3 = some (r, hf, k, n)) : mz_C l g yX11_follow cX11_follow 7 (some .int) 3 68 [va_rf a0, .int x1, .int x2, .int x3] h (some (Value.int r)) hf k n := by
  refine mz_met (as := [(false, va_rf a0), (false, .int x1), (false, .int x2), (false, .int x3)]) (plainFor_of_name (by decide)) (mz_c1 (mz_cat_rf _) (mz_c1 rfl (mz_c1 rfl (mz_c1 rfl mz_c0)))) (Nat.le_of_ble_eq_true rfl) ?_
  intro p e s m args below meth c Y
  exact pf_X11_follow_b0 r Y h a0 x1 x2 x3 _ _ hr
theorem dX11_twin_0 : decode cX11_twin 0 = .ok (.aload_n 0, 1) := by decide +kernel
theorem dX11_twin_1 : decode cX11_twin 1 = .ok (.iload_n 1, 1) := by decide +kernel
theorem dX11_twin_2 : decode cX11_twin 2 = .ok (.invokevirtual 212, 3) := by decide +kernel
theorem dX11_twin_5 : decode cX11_twin 5 = .ok (.astore_n 2, 1) := by decide +kernel
theorem dX11_twin_6 : decode cX11_twin 6 = .ok (.aload_n 2, 1) := by decide +kernel
theorem dX11_twin_7 : decode cX11_twin 7 = .ok (.ifnonnull 5, 3) := by decide +kernel
theorem dX11_twin_10 : decode cX11_twin 10 = .ok (.iconst (-1), 1) := by decide +kernel
theorem dX11_twin_11 : decode cX11_twin 11 = .ok (.ireturn, 1) := by decide +kernel
theorem dX11_twin_12 : decode cX11_twin 12 = .ok (.aload_n 0, 1) := by decide +kernel
theorem dX11_twin_13 : decode cX11_twin 13 = .ok (.getfield 198, 3) := by decide +kernel
theorem dX11_twin_16 : decode cX11_twin 16 = .ok (.bipush 60, 2) := by decide +kernel
theorem dX11_twin_18 : decode cX11_twin 18 = .ok (.if_icmp .lt 8, 3) := by decide +kernel
theorem dX11_twin_21 : decode cX11_twin 21 = .ok (.bipush (-4), 2) := by decide +kernel
theorem dX11_twin_23 : decode cX11_twin 23 = .ok (.goto 15, 3) := by decide +kernel
theorem dX11_twin_26 : decode cX11_twin 26 = .ok (.aload_n 0, 1) := by decide +kernel
theorem dX11_twin_27 : decode cX11_twin 27 = .ok (.new 26, 3) := by decide +kernel
theorem dX11_twin_30 : decode cX11_twin 30 = .ok (.dup, 1) := by decide +kernel
theorem dX11_twin_31 : decode cX11_twin 31 = .ok (.aload_n 2, 1) := by decide +kernel
theorem dX11_twin_32 : decode cX11_twin 32 = .ok (.invokespecial 318, 3) := by decide +kernel
theorem dX11_twin_35 : decode cX11_twin 35 = .ok (.invokevirtual 208, 3) := by decide +kernel
theorem dX11_twin_38 : decode cX11_twin 38 = .ok (.ireturn, 1) := by decide +kernel
def fn_X11_twin (h : mz_H) (a0 : (Option Nat)) (x1 : Int32) : mz_Res Int32 :=
  mz_chk (mz_is h a0 10) <| mz_call (fn_X11_thingOf h a0 x1) fun v1 h =>
  if v1 = none then
    mz_ret (-1) h
  else
    mz_op (mz_fI h a0 10 4) fun v2 =>
    if v2 < 60 then
      mz_oN h 7 2 [.int 0, .null] fun v3 h =>
      mz_chk (mz_is h v3 7) <| mz_call (fn_X8_init_ h v3 v1) fun _ h =>
      mz_chk (mz_is h a0 10) <| mz_call (fn_X11_addThing h a0 v3) fun v4 h =>
      mz_ret v4 h
    else
      mz_ret (-4) h
set_option maxHeartbeats 4000000 in
set_option maxRecDepth 100000 in
theorem pf_X11_twin_b0 (r : Int32) (Y : mz_Y p g RX11 cX11_twin 3 (some .int) "twin" (mz_AF h0) s m args meth c) (h : mz_H) (a0 : (Option Nat)) (x1 : Int32) (dc ds : Nat) (hr : fn_X11_twin h a0 x1 = some (r, hf, dc, ds)) : mz_Go l g p e s m args below meth c 4 87 DC DS h0 (some (Value.int r)) hf 3 0 [(0, false, va_rf a0), (1, false, .int x1)] [] h dc ds := by
  unfold fn_X11_twin at hr
  intro H locs cells slots ls hH hS hl hc hs
  have X := Y.1
  refine mz_aload_n X dX11_twin_0 rfl (mz_at hl 0 rfl) ?_
  refine lv_iload_n X.1 X.2.1 dX11_twin_1 rfl (mz_at hl 1 rfl) ?_
  refine mz_kV va_rf X hH hS hl.1.1 [.int x1] [] hr (ct_X11_thingOf l g h a0 x1) mb_RX11_212 rfl im_X11_thingOf rfl (Nat.le_of_ble_eq_true rfl) ⟨Nat.le_of_ble_eq_true rfl, Nat.le_of_ble_eq_true rfl⟩ hc hs dX11_twin_2 rfl (fun v1 h H locs cells slots dc ds hr hH hS hc hs => ?_)
  refine mz_astore_n X [(2, false, va_rf v1), (0, false, va_rf a0), (1, false, .int x1)] dX11_twin_5 rfl hl (by decide) rfl (fun ls hl => ?_)
  refine mz_aload_n X dX11_twin_6 rfl (mz_at hl 0 rfl) ?_
  refine mz_ifnonnull X 12 dX11_twin_7 (by decide) hr (fun hr => ?_) (fun hr => ?_)
  · refine mz_aload_n X dX11_twin_12 rfl (mz_at hl 1 rfl) ?_
    refine mz_getI X hH fl_RX11_198 dX11_twin_13 hr (fun v2 hr => ?_)
    refine lv_bipush (v := 60) X.1 X.2.1 dX11_twin_16 (by decide) ?_
    refine mz_icmp_lt X 26 dX11_twin_18 (by decide) hr (fun hr => ?_) (fun hr => ?_)
    · refine mz_aload_n X dX11_twin_26 rfl (mz_at hl 1 rfl) ?_
      refine mz_kN X hH hS tyX8 rfl cl_7 tyX8_ok ⟨mz_tb 177 (by decide +kernel) rfl, mz_tb 498 (by decide +kernel) rfl, mz_tb 48 (by decide +kernel) rfl⟩ nw_7 dX11_twin_27 hr hc hs (fun v3 h H cells slots dc ds hr hH hS hc hs => ?_)
      refine mz_dupR X dX11_twin_30 ?_
      refine mz_aload_n X dX11_twin_31 rfl (mz_at hl 0 rfl) ?_
      refine mz_kI X hH hS hl.1.1 [va_rf v1] [va_rf v3, va_rf a0] hr (ct_X8_init_ l g h v3 v1) mb_RX11_318 im_X8_init_ rfl rfl (Nat.le_of_ble_eq_true rfl) ⟨Nat.le_of_ble_eq_true rfl, Nat.le_of_ble_eq_true rfl⟩ hc hs dX11_twin_32 rfl (fun _ h H locs cells slots dc ds hr hH hS hc hs => ?_)
      refine mz_kV Value.int X hH hS hl.1.1 [va_rf v3] [] hr (ct_X11_addThing l g h a0 v3) mb_RX11_208 rfl im_X11_addThing rfl (Nat.le_of_ble_eq_true rfl) ⟨Nat.le_of_ble_eq_true rfl, Nat.le_of_ble_eq_true rfl⟩ hc hs dX11_twin_35 rfl (fun v4 h H locs cells slots dc ds hr hH hS hc hs => ?_)
      exact mz_iret Y dX11_twin_38 hH hS hc hs hr
    · refine lv_bipush (v := (-4)) X.1 X.2.1 dX11_twin_21 (by decide) ?_
      refine lv_goto (tgt := 38) X.1 X.2.1 dX11_twin_23 (by decide) ?_
      exact mz_iret Y dX11_twin_38 hH hS hc hs hr
  · refine lv_iconst (v := (-1)) X.1 X.2.1 dX11_twin_10 (by decide) ?_
    exact mz_iret Y dX11_twin_11 hH hS hc hs hr
set_option maxRecDepth 100000 in
theorem ct_X11_twin (l : Launch) (g : mz_G) (h : mz_H) (a0 : (Option Nat)) (x1 : Int32) (r : Int32) (hf : mz_H) (k n : Nat) (hr : fn_X11_twin h a0 x1 = some (r, hf, k, n)) : mz_C l g yX11_twin cX11_twin 3 (some .int) 4 87 [va_rf a0, .int x1] h (some (Value.int r)) hf k n := by
  refine mz_met (as := [(false, va_rf a0), (false, .int x1)]) (plainFor_of_name (by decide)) (mz_c1 (mz_cat_rf _) (mz_c1 rfl mz_c0)) (Nat.le_of_ble_eq_true rfl) ?_
  intro p e s m args below meth c Y
  exact pf_X11_twin_b0 r Y h a0 x1 _ _ hr
theorem dX11_alike_0 : decode cX11_alike 0 = .ok (.aload_n 0, 1) := by decide +kernel
theorem dX11_alike_1 : decode cX11_alike 1 = .ok (.iload_n 1, 1) := by decide +kernel
theorem dX11_alike_2 : decode cX11_alike 2 = .ok (.invokevirtual 212, 3) := by decide +kernel
theorem dX11_alike_5 : decode cX11_alike 5 = .ok (.astore_n 3, 1) := by decide +kernel
theorem dX11_alike_6 : decode cX11_alike 6 = .ok (.aload_n 0, 1) := by decide +kernel
theorem dX11_alike_7 : decode cX11_alike 7 = .ok (.iload_n 2, 1) := by decide +kernel
theorem dX11_alike_8 : decode cX11_alike 8 = .ok (.invokevirtual 212, 3) := by decide +kernel
theorem dX11_alike_11 : decode cX11_alike 11 = .ok (.astore 4, 2) := by decide +kernel
theorem dX11_alike_13 : decode cX11_alike 13 = .ok (.aload_n 3, 1) := by decide +kernel
theorem dX11_alike_14 : decode cX11_alike 14 = .ok (.ifnull 8, 3) := by decide +kernel
theorem dX11_alike_17 : decode cX11_alike 17 = .ok (.aload 4, 2) := by decide +kernel
theorem dX11_alike_19 : decode cX11_alike 19 = .ok (.ifnonnull 5, 3) := by decide +kernel
theorem dX11_alike_22 : decode cX11_alike 22 = .ok (.iconst (-1), 1) := by decide +kernel
theorem dX11_alike_23 : decode cX11_alike 23 = .ok (.ireturn, 1) := by decide +kernel
theorem dX11_alike_24 : decode cX11_alike 24 = .ok (.aload_n 3, 1) := by decide +kernel
theorem dX11_alike_25 : decode cX11_alike 25 = .ok (.aload 4, 2) := by decide +kernel
theorem dX11_alike_27 : decode cX11_alike 27 = .ok (.invokevirtual 321, 3) := by decide +kernel
theorem dX11_alike_30 : decode cX11_alike 30 = .ok (.ifCond .eq 7, 3) := by decide +kernel
theorem dX11_alike_33 : decode cX11_alike 33 = .ok (.iconst 1, 1) := by decide +kernel
theorem dX11_alike_34 : decode cX11_alike 34 = .ok (.goto 4, 3) := by decide +kernel
theorem dX11_alike_37 : decode cX11_alike 37 = .ok (.iconst 0, 1) := by decide +kernel
theorem dX11_alike_38 : decode cX11_alike 38 = .ok (.ireturn, 1) := by decide +kernel
def fn_X11_alike (h : mz_H) (a0 : (Option Nat)) (x1 : Int32) (x2 : Int32) : mz_Res Int32 :=
  mz_chk (mz_is h a0 10) <| mz_call (fn_X11_thingOf h a0 x1) fun v1 h =>
  mz_chk (mz_is h a0 10) <| mz_call (fn_X11_thingOf h a0 x2) fun v2 h =>
  if v1 = none then
    mz_ret (-1) h
  else
    if v2 = none then
      mz_ret (-1) h
    else
      mz_chk (mz_is h v1 7) <| mz_call (fn_X8_isLike h v1 v2) fun v3 h =>
      if v3 = 0 then
        mz_ret 0 h
      else
        mz_ret 1 h
set_option maxHeartbeats 4000000 in
set_option maxRecDepth 100000 in
theorem pf_X11_alike_b0 (r : Int32) (Y : mz_Y p g RX11 cX11_alike 5 (some .int) "alike" (mz_AF h0) s m args meth c) (h : mz_H) (a0 : (Option Nat)) (x1 : Int32) (x2 : Int32) (dc ds : Nat) (hr : fn_X11_alike h a0 x1 x2 = some (r, hf, dc, ds)) : mz_Go l g p e s m args below meth c 4 88 DC DS h0 (some (Value.int r)) hf 5 0 [(0, false, va_rf a0), (1, false, .int x1), (2, false, .int x2)] [] h dc ds := by
  unfold fn_X11_alike at hr
  intro H locs cells slots ls hH hS hl hc hs
  have X := Y.1
  refine mz_aload_n X dX11_alike_0 rfl (mz_at hl 0 rfl) ?_
  refine lv_iload_n X.1 X.2.1 dX11_alike_1 rfl (mz_at hl 1 rfl) ?_
  refine mz_kV va_rf X hH hS hl.1.1 [.int x1] [] hr (ct_X11_thingOf l g h a0 x1) mb_RX11_212 rfl im_X11_thingOf rfl (Nat.le_of_ble_eq_true rfl) ⟨Nat.le_of_ble_eq_true rfl, Nat.le_of_ble_eq_true rfl⟩ hc hs dX11_alike_2 rfl (fun v1 h H locs cells slots dc ds hr hH hS hc hs => ?_)
  refine mz_astore_n X [(3, false, va_rf v1), (0, false, va_rf a0), (1, false, .int x1), (2, false, .int x2)] dX11_alike_5 rfl hl (by decide) rfl (fun ls hl => ?_)
  refine mz_aload_n X dX11_alike_6 rfl (mz_at hl 1 rfl) ?_
  refine lv_iload_n X.1 X.2.1 dX11_alike_7 rfl (mz_at hl 3 rfl) ?_
  refine mz_kV va_rf X hH hS hl.1.1 [.int x2] [] hr (ct_X11_thingOf l g h a0 x2) mb_RX11_212 rfl im_X11_thingOf rfl (Nat.le_of_ble_eq_true rfl) ⟨Nat.le_of_ble_eq_true rfl, Nat.le_of_ble_eq_true rfl⟩ hc hs dX11_alike_8 rfl (fun v2 h H locs cells slots dc ds hr hH hS hc hs => ?_)
  refine mz_astore X [(4, false, va_rf v2), (3, false, va_rf v1), (0, false, va_rf a0), (1, false, .int x1), (2, false, .int x2)] dX11_alike_11 hl (by decide) rfl (fun ls hl => ?_)
  refine mz_aload_n X dX11_alike_13 rfl (mz_at hl 1 rfl) ?_
  refine mz_ifnull X 22 dX11_alike_14 (by decide) hr (fun hr => ?_) (fun hr => ?_)
  · refine lv_iconst (v := (-1)) X.1 X.2.1 dX11_alike_22 (by decide) ?_
    exact mz_iret Y dX11_alike_23 hH hS hc hs hr
  · refine mz_aload X dX11_alike_17 (mz_at hl 0 rfl) ?_
    refine mz_ifnonnull X 24 dX11_alike_19 (by decide) hr (fun hr => ?_) (fun hr => ?_)
    · refine mz_aload_n X dX11_alike_24 rfl (mz_at hl 1 rfl) ?_
      refine mz_aload X dX11_alike_25 (mz_at hl 0 rfl) ?_
      refine mz_kV Value.int X hH hS hl.1.1 [va_rf v2] [] hr (ct_X8_isLike l g h v1 v2) mb_RX11_321 rfl im_X8_isLike rfl (Nat.le_of_ble_eq_true rfl) ⟨Nat.le_of_ble_eq_true rfl, Nat.le_of_ble_eq_true rfl⟩ hc hs dX11_alike_27 rfl (fun v3 h H locs cells slots dc ds hr hH hS hc hs => ?_)
      refine mz_if_eq X 37 dX11_alike_30 (by decide) hr (fun hr => ?_) (fun hr => ?_)
      · refine lv_iconst (v := 0) X.1 X.2.1 dX11_alike_37 (by decide) ?_
        exact mz_iret Y dX11_alike_38 hH hS hc hs hr
      · refine lv_iconst (v := 1) X.1 X.2.1 dX11_alike_33 (by decide) ?_
        refine lv_goto (tgt := 38) X.1 X.2.1 dX11_alike_34 (by decide) ?_
        exact mz_iret Y dX11_alike_38 hH hS hc hs hr
    · refine lv_iconst (v := (-1)) X.1 X.2.1 dX11_alike_22 (by decide) ?_
      exact mz_iret Y dX11_alike_23 hH hS hc hs hr
set_option maxRecDepth 100000 in
theorem ct_X11_alike (l : Launch) (g : mz_G) (h : mz_H) (a0 : (Option Nat)) (x1 : Int32) (x2 : Int32) (r : Int32) (hf : mz_H) (k n : Nat) (hr : fn_X11_alike h a0 x1 x2 = some (r, hf, k, n)) : mz_C l g yX11_alike cX11_alike 5 (some .int) 4 88 [va_rf a0, .int x1, .int x2] h (some (Value.int r)) hf k n := by
  refine mz_met (as := [(false, va_rf a0), (false, .int x1), (false, .int x2)]) (plainFor_of_name (by decide)) (mz_c1 (mz_cat_rf _) (mz_c1 rfl (mz_c1 rfl mz_c0))) (Nat.le_of_ble_eq_true rfl) ?_
  intro p e s m args below meth c Y
  exact pf_X11_alike_b0 r Y h a0 x1 x2 _ _ hr
theorem dX11_find_0 : decode cX11_find 0 = .ok (.aload_n 0, 1) := by decide +kernel
theorem dX11_find_1 : decode cX11_find 1 = .ok (.getfield 10, 3) := by decide +kernel
theorem dX11_find_4 : decode cX11_find 4 = .ok (.iload_n 1, 1) := by decide +kernel
theorem dX11_find_5 : decode cX11_find 5 = .ok (.invokevirtual 48, 3) := by decide +kernel
theorem dX11_find_8 : decode cX11_find 8 = .ok (.ifnonnull 5, 3) := by decide +kernel
theorem dX11_find_11 : decode cX11_find 11 = .ok (.iconst (-1), 1) := by decide +kernel
theorem dX11_find_12 : decode cX11_find 12 = .ok (.ireturn, 1) := by decide +kernel
theorem dX11_find_13 : decode cX11_find 13 = .ok (.iconst 0, 1) := by decide +kernel
theorem dX11_find_14 : decode cX11_find 14 = .ok (.istore 4, 2) := by decide +kernel
theorem dX11_find_16 : decode cX11_find 16 = .ok (.iload 4, 2) := by decide +kernel
theorem dX11_find_18 : decode cX11_find 18 = .ok (.aload_n 0, 1) := by decide +kernel
theorem dX11_find_19 : decode cX11_find 19 = .ok (.getfield 198, 3) := by decide +kernel
theorem dX11_find_22 : decode cX11_find 22 = .ok (.if_icmp .ge 50, 3) := by decide +kernel
theorem dX11_find_25 : decode cX11_find 25 = .ok (.aload_n 0, 1) := by decide +kernel
theorem dX11_find_26 : decode cX11_find 26 = .ok (.iload 4, 2) := by decide +kernel
theorem dX11_find_28 : decode cX11_find 28 = .ok (.invokevirtual 212, 3) := by decide +kernel
theorem dX11_find_31 : decode cX11_find 31 = .ok (.astore 5, 2) := by decide +kernel
theorem dX11_find_33 : decode cX11_find 33 = .ok (.aload 5, 2) := by decide +kernel
theorem dX11_find_35 : decode cX11_find 35 = .ok (.ifnull 31, 3) := by decide +kernel
theorem dX11_find_38 : decode cX11_find 38 = .ok (.aload 5, 2) := by decide +kernel
theorem dX11_find_40 : decode cX11_find 40 = .ok (.lload_n 2, 1) := by decide +kernel
theorem dX11_find_41 : decode cX11_find 41 = .ok (.invokevirtual 325, 3) := by decide +kernel
theorem dX11_find_44 : decode cX11_find 44 = .ok (.ifCond .eq 22, 3) := by decide +kernel
theorem dX11_find_47 : decode cX11_find 47 = .ok (.aload_n 0, 1) := by decide +kernel
theorem dX11_find_48 : decode cX11_find 48 = .ok (.getfield 10, 3) := by decide +kernel
theorem dX11_find_51 : decode cX11_find 51 = .ok (.aload 5, 2) := by decide +kernel
theorem dX11_find_53 : decode cX11_find 53 = .ok (.getfield 216, 3) := by decide +kernel
theorem dX11_find_56 : decode cX11_find 56 = .ok (.iload_n 1, 1) := by decide +kernel
theorem dX11_find_57 : decode cX11_find 57 = .ok (.invokevirtual 75, 3) := by decide +kernel
theorem dX11_find_60 : decode cX11_find 60 = .ok (.ifCond .eq 6, 3) := by decide +kernel
theorem dX11_find_63 : decode cX11_find 63 = .ok (.iload 4, 2) := by decide +kernel
theorem dX11_find_65 : decode cX11_find 65 = .ok (.ireturn, 1) := by decide +kernel
theorem dX11_find_66 : decode cX11_find 66 = .ok (.iinc 4 1, 3) := by decide +kernel
theorem dX11_find_69 : decode cX11_find 69 = .ok (.goto (-53), 3) := by decide +kernel
theorem dX11_find_72 : decode cX11_find 72 = .ok (.bipush (-9), 2) := by decide +kernel
theorem dX11_find_74 : decode cX11_find 74 = .ok (.ireturn, 1) := by decide +kernel
def fn_X11_find_b66 (rc16 : mz_H → (Option Nat) → Int32 → Int64 → Int32 → mz_Res Int32) (h : mz_H) (a0 : (Option Nat)) (x1 : Int32) (j2 : Int64) (x4 : Int32) : mz_Res Int32 :=
  mz_op (some (x4 + 1)) fun v1 =>
  rc16 h a0 x1 j2 v1
set_option maxHeartbeats 4000000 in
set_option maxRecDepth 100000 in
theorem pf_X11_find_b66 (r : Int32) (Y : mz_Y p g RX11 cX11_find 6 (some .int) "find" (mz_AF h0) s m args meth c) {rc16 : mz_H → (Option Nat) → Int32 → Int64 → Int32 → mz_Res Int32} (hrc16 : ∀ (h : mz_H) (a0 : (Option Nat)) (x1 : Int32) (j2 : Int64) (x4 : Int32) (dc ds : Nat), rc16 h a0 x1 j2 x4 = some (r, hf, dc, ds) → mz_Go l g p e s m args below meth c 67 2590 DC DS h0 (some (Value.int r)) hf 6 16 [(0, false, va_rf a0), (1, false, .int x1), (2, true, .long j2), (4, false, .int x4)] [] h dc ds) (h : mz_H) (a0 : (Option Nat)) (x1 : Int32) (j2 : Int64) (x4 : Int32) (dc ds : Nat) (hr : fn_X11_find_b66 rc16 h a0 x1 j2 x4 = some (r, hf, dc, ds)) : mz_Go l g p e s m args below meth c 67 2590 DC DS h0 (some (Value.int r)) hf 6 66 [(0, false, va_rf a0), (1, false, .int x1), (2, true, .long j2), (4, false, .int x4)] [] h dc ds := by
  unfold fn_X11_find_b66 at hr
  intro H locs cells slots ls hH hS hl hc hs
  have X := Y.1
  obtain ⟨v1, hv1, hr⟩ := mz_op_some hr
  have hv1 := Option.some.inj hv1
  refine mz_iinc (k := 3) X [(4, false, .int v1), (0, false, va_rf a0), (1, false, .int x1), (2, true, .long j2)] v1 dX11_find_66 hl rfl hv1 (by decide) rfl (fun ls hl => ?_)
  refine lv_goto (tgt := 16) X.1 X.2.1 dX11_find_69 (by decide) ?_
  exact hrc16 h a0 x1 j2 v1 _ _ hr H locs cells slots ls hH hS (mz_sub hl [1, 2, 3, 0] rfl) hc hs
def fn_X11_find_b16 : Nat → mz_H → (Option Nat) → Int32 → Int64 → Int32 → mz_Res Int32
  | 0, _, _, _, _, _ => none
  | n + 1, h, a0, x1, j2, x4 =>
    mz_op (mz_fI h a0 10 4) fun v1 =>
    if v1 ≤ x4 then
      mz_ret (-9) h
    else
      mz_chk (mz_is h a0 10) <| mz_call (fn_X11_thingOf h a0 x4) fun v2 h =>
      if v2 = none then
        fn_X11_find_b66 (fn_X11_find_b16 n) h a0 x1 j2 x4
      else
        mz_chk (mz_is h v2 7) <| mz_call (fn_X8_hasKey h v2 j2) fun v3 h =>
        if v3 = 0 then
          fn_X11_find_b66 (fn_X11_find_b16 n) h a0 x1 j2 x4
        else
          mz_op (mz_fR h a0 10 0) fun v4 =>
          mz_op (mz_fI h v2 7 0) fun v5 =>
          mz_chk (mz_is h v4 9) <| mz_call (fn_X10_isBelow h v4 v5 x1) fun v6 h =>
          if v6 = 0 then
            fn_X11_find_b66 (fn_X11_find_b16 n) h a0 x1 j2 x4
          else
            mz_ret x4 h
set_option maxHeartbeats 4000000 in
set_option maxRecDepth 100000 in
theorem pf_X11_find_b16 (r : Int32) (Y : mz_Y p g RX11 cX11_find 6 (some .int) "find" (mz_AF h0) s m args meth c) : ∀ (n : Nat) (h : mz_H) (a0 : (Option Nat)) (x1 : Int32) (j2 : Int64) (x4 : Int32) (dc ds : Nat), fn_X11_find_b16 n h a0 x1 j2 x4 = some (r, hf, dc, ds) → mz_Go l g p e s m args below meth c 67 2590 DC DS h0 (some (Value.int r)) hf 6 16 [(0, false, va_rf a0), (1, false, .int x1), (2, true, .long j2), (4, false, .int x4)] [] h dc ds := by
  have X := Y.1
  intro n
  induction n with
  | zero => intro h a0 x1 j2 x4 dc ds hr; simp [fn_X11_find_b16] at hr
  | succ n ih =>
    intro h a0 x1 j2 x4 dc ds hr
    rw [fn_X11_find_b16] at hr
    intro H locs cells slots ls hH hS hl hc hs
    refine lv_iload X.1 X.2.1 dX11_find_16 (mz_at hl 3 rfl) ?_
    refine mz_aload_n X dX11_find_18 rfl (mz_at hl 0 rfl) ?_
    refine mz_getI X hH fl_RX11_198 dX11_find_19 hr (fun v1 hr => ?_)
    refine mz_icmp_ge X 72 dX11_find_22 (by decide) hr (fun hr => ?_) (fun hr => ?_)
    · refine lv_bipush (v := (-9)) X.1 X.2.1 dX11_find_72 (by decide) ?_
      exact mz_iret Y dX11_find_74 hH hS hc hs hr
    · refine mz_aload_n X dX11_find_25 rfl (mz_at hl 0 rfl) ?_
      refine lv_iload X.1 X.2.1 dX11_find_26 (mz_at hl 3 rfl) ?_
      refine mz_kV va_rf X hH hS hl.1.1 [.int x4] [] hr (ct_X11_thingOf l g h a0 x4) mb_RX11_212 rfl im_X11_thingOf rfl (Nat.le_of_ble_eq_true rfl) ⟨Nat.le_of_ble_eq_true rfl, Nat.le_of_ble_eq_true rfl⟩ hc hs dX11_find_28 rfl (fun v2 h H locs cells slots dc ds hr hH hS hc hs => ?_)
      refine mz_astore X [(5, false, va_rf v2), (0, false, va_rf a0), (1, false, .int x1), (2, true, .long j2), (4, false, .int x4)] dX11_find_31 hl (by decide) rfl (fun ls hl => ?_)
      refine mz_aload X dX11_find_33 (mz_at hl 0 rfl) ?_
      refine mz_ifnull X 66 dX11_find_35 (by decide) hr (fun hr => ?_) (fun hr => ?_)
      · exact pf_X11_find_b66 r Y ih h a0 x1 j2 x4 _ _ hr H locs cells slots ls hH hS (mz_sub hl [1, 2, 3, 4] rfl) hc hs
      · refine mz_aload X dX11_find_38 (mz_at hl 0 rfl) ?_
        refine lv_lload_n X.1 X.2.1 dX11_find_40 rfl (mz_at hl 3 rfl) ?_
        refine mz_kV Value.int X hH hS hl.1.1 [.long j2] [] hr (ct_X8_hasKey l g h v2 j2) mb_RX11_325 rfl im_X8_hasKey rfl (Nat.le_of_ble_eq_true rfl) ⟨Nat.le_of_ble_eq_true rfl, Nat.le_of_ble_eq_true rfl⟩ hc hs dX11_find_41 rfl (fun v3 h H locs cells slots dc ds hr hH hS hc hs => ?_)
        refine mz_if_eq X 66 dX11_find_44 (by decide) hr (fun hr => ?_) (fun hr => ?_)
        · exact pf_X11_find_b66 r Y ih h a0 x1 j2 x4 _ _ hr H locs cells slots ls hH hS (mz_sub hl [1, 2, 3, 4] rfl) hc hs
        · refine mz_aload_n X dX11_find_47 rfl (mz_at hl 1 rfl) ?_
          refine mz_getR X hH fl_RX11_10 dX11_find_48 hr (fun v4 hr => ?_)
          refine mz_aload X dX11_find_51 (mz_at hl 0 rfl) ?_
          refine mz_getI X hH fl_RX11_216 dX11_find_53 hr (fun v5 hr => ?_)
          refine lv_iload_n X.1 X.2.1 dX11_find_56 rfl (mz_at hl 2 rfl) ?_
          refine mz_kV Value.int X hH hS hl.1.1 [.int v5, .int x1] [] hr (ct_X10_isBelow l g h v4 v5 x1) mb_RX11_75 rfl im_X10_isBelow rfl (Nat.le_of_ble_eq_true rfl) ⟨Nat.le_of_ble_eq_true rfl, Nat.le_of_ble_eq_true rfl⟩ hc hs dX11_find_57 rfl (fun v6 h H locs cells slots dc ds hr hH hS hc hs => ?_)
          refine mz_if_eq X 66 dX11_find_60 (by decide) hr (fun hr => ?_) (fun hr => ?_)
          · exact pf_X11_find_b66 r Y ih h a0 x1 j2 x4 _ _ hr H locs cells slots ls hH hS (mz_sub hl [1, 2, 3, 4] rfl) hc hs
          · refine lv_iload X.1 X.2.1 dX11_find_63 (mz_at hl 4 rfl) ?_
            exact mz_iret Y dX11_find_65 hH hS hc hs hr
def fn_X11_find (h : mz_H) (a0 : (Option Nat)) (x1 : Int32) (j2 : Int64) : mz_Res Int32 :=
  mz_op (mz_fR h a0 10 0) fun v1 =>
  mz_chk (mz_is h v1 9) <| mz_call (fn_X10_typeOf h v1 x1) fun v2 h =>
  if v2 = none then
    mz_ret (-1) h
  else
    fn_X11_find_b16 1001 h a0 x1 j2 0
set_option maxHeartbeats 4000000 in
set_option maxRecDepth 100000 in
theorem pf_X11_find_b0 (r : Int32) (Y : mz_Y p g RX11 cX11_find 6 (some .int) "find" (mz_AF h0) s m args meth c) (h : mz_H) (a0 : (Option Nat)) (x1 : Int32) (j2 : Int64) (dc ds : Nat) (hr : fn_X11_find h a0 x1 j2 = some (r, hf, dc, ds)) : mz_Go l g p e s m args below meth c 67 2590 DC DS h0 (some (Value.int r)) hf 6 0 [(0, false, va_rf a0), (1, false, .int x1), (2, true, .long j2)] [] h dc ds := by
  unfold fn_X11_find at hr
  intro H locs cells slots ls hH hS hl hc hs
  have X := Y.1
  refine mz_aload_n X dX11_find_0 rfl (mz_at hl 0 rfl) ?_
  refine mz_getR X hH fl_RX11_10 dX11_find_1 hr (fun v1 hr => ?_)
  refine lv_iload_n X.1 X.2.1 dX11_find_4 rfl (mz_at hl 1 rfl) ?_
  refine mz_kV va_rf X hH hS hl.1.1 [.int x1] [] hr (ct_X10_typeOf l g h v1 x1) mb_RX11_48 rfl im_X10_typeOf rfl (Nat.le_of_ble_eq_true rfl) ⟨Nat.le_of_ble_eq_true rfl, Nat.le_of_ble_eq_true rfl⟩ hc hs dX11_find_5 rfl (fun v2 h H locs cells slots dc ds hr hH hS hc hs => ?_)
  refine mz_ifnonnull X 13 dX11_find_8 (by decide) hr (fun hr => ?_) (fun hr => ?_)
  · refine lv_iconst (v := 0) X.1 X.2.1 dX11_find_13 (by decide) ?_
    refine mz_istore X [(4, false, .int 0), (0, false, va_rf a0), (1, false, .int x1), (2, true, .long j2)] dX11_find_14 hl (by decide) rfl (fun ls hl => ?_)
    exact pf_X11_find_b16 r Y 1001 h a0 x1 j2 0 _ _ hr H locs cells slots ls hH hS (mz_sub hl [1, 2, 3, 0] rfl) hc hs
  · refine lv_iconst (v := (-1)) X.1 X.2.1 dX11_find_11 (by decide) ?_
    exact mz_iret Y dX11_find_12 hH hS hc hs hr
set_option maxRecDepth 100000 in
theorem ct_X11_find (l : Launch) (g : mz_G) (h : mz_H) (a0 : (Option Nat)) (x1 : Int32) (j2 : Int64) (r : Int32) (hf : mz_H) (k n : Nat) (hr : fn_X11_find h a0 x1 j2 = some (r, hf, k, n)) : mz_C l g yX11_find cX11_find 6 (some .int) 67 2590 [va_rf a0, .int x1, .long j2] h (some (Value.int r)) hf k n := by
  refine mz_met (as := [(false, va_rf a0), (false, .int x1), (true, .long j2)]) (plainFor_of_name (by decide)) (mz_c1 (mz_cat_rf _) (mz_c1 rfl (mz_c1 rfl mz_c0))) (Nat.le_of_ble_eq_true rfl) ?_
  intro p e s m args below meth c Y
  exact pf_X11_find_b0 r Y h a0 x1 j2 _ _ hr
theorem dX11_columnSlot_0 : decode cX11_columnSlot 0 = .ok (.aload_n 1, 1) := by decide +kernel
theorem dX11_columnSlot_1 : decode cX11_columnSlot 1 = .ok (.ifnonnull 7, 3) := by decide +kernel
theorem dX11_columnSlot_4 : decode cX11_columnSlot 4 = .ok (.aconst_null, 1) := by decide +kernel
theorem dX11_columnSlot_5 : decode cX11_columnSlot 5 = .ok (.goto 8, 3) := by decide +kernel
theorem dX11_columnSlot_8 : decode cX11_columnSlot 8 = .ok (.aload_n 1, 1) := by decide +kernel
theorem dX11_columnSlot_9 : decode cX11_columnSlot 9 = .ok (.iload_n 3, 1) := by decide +kernel
theorem dX11_columnSlot_10 : decode cX11_columnSlot 10 = .ok (.invokevirtual 384, 3) := by decide +kernel
theorem dX11_columnSlot_13 : decode cX11_columnSlot 13 = .ok (.astore 4, 2) := by decide +kernel
theorem dX11_columnSlot_15 : decode cX11_columnSlot 15 = .ok (.aload 4, 2) := by decide +kernel
theorem dX11_columnSlot_17 : decode cX11_columnSlot 17 = .ok (.ifnull 21, 3) := by decide +kernel
theorem dX11_columnSlot_20 : decode cX11_columnSlot 20 = .ok (.aload 4, 2) := by decide +kernel
theorem dX11_columnSlot_22 : decode cX11_columnSlot 22 = .ok (.getfield 234, 3) := by decide +kernel
theorem dX11_columnSlot_25 : decode cX11_columnSlot 25 = .ok (.ifCond .ne 13, 3) := by decide +kernel
theorem dX11_columnSlot_28 : decode cX11_columnSlot 28 = .ok (.aload 4, 2) := by decide +kernel
theorem dX11_columnSlot_30 : decode cX11_columnSlot 30 = .ok (.getfield 233, 3) := by decide +kernel
theorem dX11_columnSlot_33 : decode cX11_columnSlot 33 = .ok (.bipush 8, 2) := by decide +kernel
theorem dX11_columnSlot_35 : decode cX11_columnSlot 35 = .ok (.if_icmp .ne 5, 3) := by decide +kernel
theorem dX11_columnSlot_38 : decode cX11_columnSlot 38 = .ok (.aconst_null, 1) := by decide +kernel
theorem dX11_columnSlot_39 : decode cX11_columnSlot 39 = .ok (.areturn, 1) := by decide +kernel
theorem dX11_columnSlot_40 : decode cX11_columnSlot 40 = .ok (.aload_n 0, 1) := by decide +kernel
theorem dX11_columnSlot_41 : decode cX11_columnSlot 41 = .ok (.getfield 10, 3) := by decide +kernel
theorem dX11_columnSlot_44 : decode cX11_columnSlot 44 = .ok (.aload_n 1, 1) := by decide +kernel
theorem dX11_columnSlot_45 : decode cX11_columnSlot 45 = .ok (.getfield 216, 3) := by decide +kernel
theorem dX11_columnSlot_48 : decode cX11_columnSlot 48 = .ok (.iload_n 2, 1) := by decide +kernel
theorem dX11_columnSlot_49 : decode cX11_columnSlot 49 = .ok (.invokevirtual 75, 3) := by decide +kernel
theorem dX11_columnSlot_52 : decode cX11_columnSlot 52 = .ok (.ifCond .eq 8, 3) := by decide +kernel
theorem dX11_columnSlot_55 : decode cX11_columnSlot 55 = .ok (.aload 4, 2) := by decide +kernel
theorem dX11_columnSlot_57 : decode cX11_columnSlot 57 = .ok (.goto 4, 3) := by decide +kernel
theorem dX11_columnSlot_60 : decode cX11_columnSlot 60 = .ok (.aconst_null, 1) := by decide +kernel
theorem dX11_columnSlot_61 : decode cX11_columnSlot 61 = .ok (.areturn, 1) := by decide +kernel
def fn_X11_columnSlot_b13 (h : mz_H) (a0 : (Option Nat)) (a1 : (Option Nat)) (x2 : Int32) (s0 : (Option Nat)) : mz_Res (Option Nat) :=
  if s0 = none then
    mz_ret none h
  else
    mz_op (mz_fI h s0 5 2) fun v1 =>
    if v1 = 0 then
      mz_op (mz_fI h s0 5 1) fun v2 =>
      if v2 = 8 then
        mz_ret none h
      else
        mz_op (mz_fR h a0 10 0) fun v3 =>
        mz_op (mz_fI h a1 7 0) fun v4 =>
        mz_chk (mz_is h v3 9) <| mz_call (fn_X10_isBelow h v3 v4 x2) fun v5 h =>
        if v5 = 0 then
          mz_ret none h
        else
          mz_ret s0 h
    else
      mz_ret none h
set_option maxHeartbeats 4000000 in
set_option maxRecDepth 100000 in
theorem pf_X11_columnSlot_b13 (r : (Option Nat)) (Y : mz_Y p g RX11 cX11_columnSlot 5 (some (.object "MemberScanner$Slot")) "columnSlot" (mz_AF h0) s m args meth c) (h : mz_H) (a0 : (Option Nat)) (a1 : (Option Nat)) (x2 : Int32) (s0 : (Option Nat)) (dc ds : Nat) (hr : fn_X11_columnSlot_b13 h a0 a1 x2 s0 = some (r, hf, dc, ds)) : mz_Go l g p e s m args below meth c 67 2590 DC DS h0 (some (va_rf r)) hf 5 13 [(0, false, va_rf a0), (1, false, va_rf a1), (2, false, .int x2)] [va_rf s0] h dc ds := by
  unfold fn_X11_columnSlot_b13 at hr
  intro H locs cells slots ls hH hS hl hc hs
  have X := Y.1
  refine mz_astore X [(4, false, va_rf s0), (0, false, va_rf a0), (1, false, va_rf a1), (2, false, .int x2)] dX11_columnSlot_13 hl (by decide) rfl (fun ls hl => ?_)
  refine mz_aload X dX11_columnSlot_15 (mz_at hl 0 rfl) ?_
  refine mz_ifnull X 38 dX11_columnSlot_17 (by decide) hr (fun hr => ?_) (fun hr => ?_)
  · refine mz_null X dX11_columnSlot_38 ?_
    exact mz_aret Y dX11_columnSlot_39 hH hS hc hs hr
  · refine mz_aload X dX11_columnSlot_20 (mz_at hl 0 rfl) ?_
    refine mz_getI X hH fl_RX11_234 dX11_columnSlot_22 hr (fun v1 hr => ?_)
    refine mz_if_ne X 38 dX11_columnSlot_25 (by decide) hr (fun hr => ?_) (fun hr => ?_)
    · refine mz_null X dX11_columnSlot_38 ?_
      exact mz_aret Y dX11_columnSlot_39 hH hS hc hs hr
    · refine mz_aload X dX11_columnSlot_28 (mz_at hl 0 rfl) ?_
      refine mz_getI X hH fl_RX11_233 dX11_columnSlot_30 hr (fun v2 hr => ?_)
      refine lv_bipush (v := 8) X.1 X.2.1 dX11_columnSlot_33 (by decide) ?_
      refine mz_icmp_ne X 40 dX11_columnSlot_35 (by decide) hr (fun hr => ?_) (fun hr => ?_)
      · refine mz_aload_n X dX11_columnSlot_40 rfl (mz_at hl 1 rfl) ?_
        refine mz_getR X hH fl_RX11_10 dX11_columnSlot_41 hr (fun v3 hr => ?_)
        refine mz_aload_n X dX11_columnSlot_44 rfl (mz_at hl 2 rfl) ?_
        refine mz_getI X hH fl_RX11_216 dX11_columnSlot_45 hr (fun v4 hr => ?_)
        refine lv_iload_n X.1 X.2.1 dX11_columnSlot_48 rfl (mz_at hl 3 rfl) ?_
        refine mz_kV Value.int X hH hS hl.1.1 [.int v4, .int x2] [] hr (ct_X10_isBelow l g h v3 v4 x2) mb_RX11_75 rfl im_X10_isBelow rfl (Nat.le_of_ble_eq_true rfl) ⟨Nat.le_of_ble_eq_true rfl, Nat.le_of_ble_eq_true rfl⟩ hc hs dX11_columnSlot_49 rfl (fun v5 h H locs cells slots dc ds hr hH hS hc hs => ?_)
        refine mz_if_eq X 60 dX11_columnSlot_52 (by decide) hr (fun hr => ?_) (fun hr => ?_)
        · refine mz_null X dX11_columnSlot_60 ?_
          exact mz_aret Y dX11_columnSlot_61 hH hS hc hs hr
        · refine mz_aload X dX11_columnSlot_55 (mz_at hl 0 rfl) ?_
          refine lv_goto (tgt := 61) X.1 X.2.1 dX11_columnSlot_57 (by decide) ?_
          exact mz_aret Y dX11_columnSlot_61 hH hS hc hs hr
      · refine mz_null X dX11_columnSlot_38 ?_
        exact mz_aret Y dX11_columnSlot_39 hH hS hc hs hr
def fn_X11_columnSlot (h : mz_H) (a0 : (Option Nat)) (a1 : (Option Nat)) (x2 : Int32) (x3 : Int32) : mz_Res (Option Nat) :=
  if a1 = none then
    fn_X11_columnSlot_b13 h a0 a1 x2 none
  else
    mz_chk (mz_is h a1 7) <| mz_call (fn_X8_slotNamed h a1 x3) fun v1 h =>
    fn_X11_columnSlot_b13 h a0 a1 x2 v1
set_option maxHeartbeats 4000000 in
set_option maxRecDepth 100000 in
theorem pf_X11_columnSlot_b0 (r : (Option Nat)) (Y : mz_Y p g RX11 cX11_columnSlot 5 (some (.object "MemberScanner$Slot")) "columnSlot" (mz_AF h0) s m args meth c) (h : mz_H) (a0 : (Option Nat)) (a1 : (Option Nat)) (x2 : Int32) (x3 : Int32) (dc ds : Nat) (hr : fn_X11_columnSlot h a0 a1 x2 x3 = some (r, hf, dc, ds)) : mz_Go l g p e s m args below meth c 67 2590 DC DS h0 (some (va_rf r)) hf 5 0 [(0, false, va_rf a0), (1, false, va_rf a1), (2, false, .int x2), (3, false, .int x3)] [] h dc ds := by
  unfold fn_X11_columnSlot at hr
  intro H locs cells slots ls hH hS hl hc hs
  have X := Y.1
  refine mz_aload_n X dX11_columnSlot_0 rfl (mz_at hl 1 rfl) ?_
  refine mz_ifnonnull X 8 dX11_columnSlot_1 (by decide) hr (fun hr => ?_) (fun hr => ?_)
  · refine mz_aload_n X dX11_columnSlot_8 rfl (mz_at hl 1 rfl) ?_
    refine lv_iload_n X.1 X.2.1 dX11_columnSlot_9 rfl (mz_at hl 3 rfl) ?_
    refine mz_kV va_rf X hH hS hl.1.1 [.int x3] [] hr (ct_X8_slotNamed l g h a1 x3) mb_RX11_384 rfl im_X8_slotNamed rfl (Nat.le_of_ble_eq_true rfl) ⟨Nat.le_of_ble_eq_true rfl, Nat.le_of_ble_eq_true rfl⟩ hc hs dX11_columnSlot_10 rfl (fun v1 h H locs cells slots dc ds hr hH hS hc hs => ?_)
    exact pf_X11_columnSlot_b13 r Y h a0 a1 x2 v1 _ _ hr H locs cells slots ls hH hS (mz_sub hl [0, 1, 2] rfl) hc hs
  · refine mz_null X dX11_columnSlot_4 ?_
    refine lv_goto (tgt := 13) X.1 X.2.1 dX11_columnSlot_5 (by decide) ?_
    exact pf_X11_columnSlot_b13 r Y h a0 a1 x2 none _ _ hr H locs cells slots ls hH hS (mz_sub hl [0, 1, 2] rfl) hc hs
set_option maxRecDepth 100000 in
theorem ct_X11_columnSlot (l : Launch) (g : mz_G) (h : mz_H) (a0 : (Option Nat)) (a1 : (Option Nat)) (x2 : Int32) (x3 : Int32) (r : (Option Nat)) (hf : mz_H) (k n : Nat) (hr : fn_X11_columnSlot h a0 a1 x2 x3 = some (r, hf, k, n)) : mz_C l g yX11_columnSlot cX11_columnSlot 5 (some (.object "MemberScanner$Slot")) 67 2590 [va_rf a0, va_rf a1, .int x2, .int x3] h (some (va_rf r)) hf k n := by
  refine mz_met (as := [(false, va_rf a0), (false, va_rf a1), (false, .int x2), (false, .int x3)]) (plainFor_of_name (by decide)) (mz_c1 (mz_cat_rf _) (mz_c1 (mz_cat_rf _) (mz_c1 rfl (mz_c1 rfl mz_c0)))) (Nat.le_of_ble_eq_true rfl) ?_
  intro p e s m args below meth c Y
  exact pf_X11_columnSlot_b0 r Y h a0 a1 x2 x3 _ _ hr
theorem dX11_column_0 : decode cX11_column 0 = .ok (.aload_n 0, 1) := by decide +kernel
theorem dX11_column_1 : decode cX11_column 1 = .ok (.iconst 0, 1) := by decide +kernel
theorem dX11_column_2 : decode cX11_column 2 = .ok (.putfield 185, 3) := by decide +kernel
theorem dX11_column_5 : decode cX11_column 5 = .ok (.aload_n 0, 1) := by decide +kernel
theorem dX11_column_6 : decode cX11_column 6 = .ok (.getfield 10, 3) := by decide +kernel
theorem dX11_column_9 : decode cX11_column 9 = .ok (.iload_n 1, 1) := by decide +kernel
theorem dX11_column_10 : decode cX11_column 10 = .ok (.invokevirtual 48, 3) := by decide +kernel
theorem dX11_column_13 : decode cX11_column 13 = .ok (.ifnonnull 5, 3) := by decide +kernel
theorem dX11_column_16 : decode cX11_column 16 = .ok (.iconst (-1), 1) := by decide +kernel
theorem dX11_column_17 : decode cX11_column 17 = .ok (.ireturn, 1) := by decide +kernel
theorem dX11_column_18 : decode cX11_column 18 = .ok (.iload_n 2, 1) := by decide +kernel
theorem dX11_column_19 : decode cX11_column 19 = .ok (.invokestatic 99, 3) := by decide +kernel
theorem dX11_column_22 : decode cX11_column 22 = .ok (.ifCond .eq 10, 3) := by decide +kernel
theorem dX11_column_25 : decode cX11_column 25 = .ok (.iload_n 3, 1) := by decide +kernel
theorem dX11_column_26 : decode cX11_column 26 = .ok (.invokestatic 90, 3) := by decide +kernel
theorem dX11_column_29 : decode cX11_column 29 = .ok (.ifCond .ne 6, 3) := by decide +kernel
theorem dX11_column_32 : decode cX11_column 32 = .ok (.bipush (-2), 2) := by decide +kernel
theorem dX11_column_34 : decode cX11_column 34 = .ok (.ireturn, 1) := by decide +kernel
theorem dX11_column_35 : decode cX11_column 35 = .ok (.aload_n 0, 1) := by decide +kernel
theorem dX11_column_36 : decode cX11_column 36 = .ok (.getfield 39, 3) := by decide +kernel
theorem dX11_column_39 : decode cX11_column 39 = .ok (.iload_n 3, 1) := by decide +kernel
theorem dX11_column_40 : decode cX11_column 40 = .ok (.invokevirtual 329, 3) := by decide +kernel
theorem dX11_column_43 : decode cX11_column 43 = .ok (.iconst 0, 1) := by decide +kernel
theorem dX11_column_44 : decode cX11_column 44 = .ok (.istore 4, 2) := by decide +kernel
theorem dX11_column_46 : decode cX11_column 46 = .ok (.iload 4, 2) := by decide +kernel
theorem dX11_column_48 : decode cX11_column 48 = .ok (.aload_n 0, 1) := by decide +kernel
theorem dX11_column_49 : decode cX11_column 49 = .ok (.getfield 198, 3) := by decide +kernel
theorem dX11_column_52 : decode cX11_column 52 = .ok (.if_icmp .ge 47, 3) := by decide +kernel
theorem dX11_column_55 : decode cX11_column 55 = .ok (.aload_n 0, 1) := by decide +kernel
theorem dX11_column_56 : decode cX11_column 56 = .ok (.aload_n 0, 1) := by decide +kernel
theorem dX11_column_57 : decode cX11_column 57 = .ok (.iload 4, 2) := by decide +kernel
theorem dX11_column_59 : decode cX11_column 59 = .ok (.invokevirtual 212, 3) := by decide +kernel
theorem dX11_column_62 : decode cX11_column 62 = .ok (.iload_n 1, 1) := by decide +kernel
theorem dX11_column_63 : decode cX11_column 63 = .ok (.iload_n 2, 1) := by decide +kernel
theorem dX11_column_64 : decode cX11_column 64 = .ok (.invokevirtual 332, 3) := by decide +kernel
theorem dX11_column_67 : decode cX11_column 67 = .ok (.astore 5, 2) := by decide +kernel
theorem dX11_column_69 : decode cX11_column 69 = .ok (.aload 5, 2) := by decide +kernel
theorem dX11_column_71 : decode cX11_column 71 = .ok (.ifnull 22, 3) := by decide +kernel
theorem dX11_column_74 : decode cX11_column 74 = .ok (.aload_n 0, 1) := by decide +kernel
theorem dX11_column_75 : decode cX11_column 75 = .ok (.getfield 39, 3) := by decide +kernel
theorem dX11_column_78 : decode cX11_column 78 = .ok (.aload 5, 2) := by decide +kernel
theorem dX11_column_80 : decode cX11_column 80 = .ok (.invokevirtual 336, 3) := by decide +kernel
theorem dX11_column_83 : decode cX11_column 83 = .ok (.ifCond .ne 10, 3) := by decide +kernel
theorem dX11_column_86 : decode cX11_column 86 = .ok (.aload_n 0, 1) := by decide +kernel
theorem dX11_column_87 : decode cX11_column 87 = .ok (.bipush 7, 2) := by decide +kernel
theorem dX11_column_89 : decode cX11_column 89 = .ok (.invokevirtual 195, 3) := by decide +kernel
theorem dX11_column_92 : decode cX11_column 92 = .ok (.ireturn, 1) := by decide +kernel
theorem dX11_column_93 : decode cX11_column 93 = .ok (.iinc 4 1, 3) := by decide +kernel
theorem dX11_column_96 : decode cX11_column 96 = .ok (.goto (-50), 3) := by decide +kernel
theorem dX11_column_99 : decode cX11_column 99 = .ok (.aload_n 0, 1) := by decide +kernel
theorem dX11_column_100 : decode cX11_column 100 = .ok (.getfield 35, 3) := by decide +kernel
theorem dX11_column_103 : decode cX11_column 103 = .ok (.astore 4, 2) := by decide +kernel
theorem dX11_column_105 : decode cX11_column 105 = .ok (.aload_n 0, 1) := by decide +kernel
theorem dX11_column_106 : decode cX11_column 106 = .ok (.aload_n 0, 1) := by decide +kernel
theorem dX11_column_107 : decode cX11_column 107 = .ok (.getfield 39, 3) := by decide +kernel
theorem dX11_column_110 : decode cX11_column 110 = .ok (.putfield 35, 3) := by decide +kernel
theorem dX11_column_113 : decode cX11_column 113 = .ok (.aload_n 0, 1) := by decide +kernel
theorem dX11_column_114 : decode cX11_column 114 = .ok (.aload 4, 2) := by decide +kernel
theorem dX11_column_116 : decode cX11_column 116 = .ok (.putfield 39, 3) := by decide +kernel
theorem dX11_column_119 : decode cX11_column 119 = .ok (.aload_n 0, 1) := by decide +kernel
theorem dX11_column_120 : decode cX11_column 120 = .ok (.getfield 35, 3) := by decide +kernel
theorem dX11_column_123 : decode cX11_column 123 = .ok (.getfield 340, 3) := by decide +kernel
theorem dX11_column_126 : decode cX11_column 126 = .ok (.ireturn, 1) := by decide +kernel
def fn_X11_column_b93 (rc46 : mz_H → (Option Nat) → Int32 → Int32 → Int32 → mz_Res Int32) (h : mz_H) (a0 : (Option Nat)) (x1 : Int32) (x2 : Int32) (x4 : Int32) : mz_Res Int32 :=
  mz_op (some (x4 + 1)) fun v1 =>
  rc46 h a0 x1 x2 v1
set_option maxHeartbeats 4000000 in
set_option maxRecDepth 100000 in
theorem pf_X11_column_b93 (r : Int32) (Y : mz_Y p g RX11 cX11_column 6 (some .int) "column" (mz_AF h0) s m args meth c) {rc46 : mz_H → (Option Nat) → Int32 → Int32 → Int32 → mz_Res Int32} (hrc46 : ∀ (h : mz_H) (a0 : (Option Nat)) (x1 : Int32) (x2 : Int32) (x4 : Int32) (dc ds : Nat), rc46 h a0 x1 x2 x4 = some (r, hf, dc, ds) → mz_Go l g p e s m args below meth c 68 2614 DC DS h0 (some (Value.int r)) hf 6 46 [(0, false, va_rf a0), (1, false, .int x1), (2, false, .int x2), (4, false, .int x4)] [] h dc ds) (h : mz_H) (a0 : (Option Nat)) (x1 : Int32) (x2 : Int32) (x4 : Int32) (dc ds : Nat) (hr : fn_X11_column_b93 rc46 h a0 x1 x2 x4 = some (r, hf, dc, ds)) : mz_Go l g p e s m args below meth c 68 2614 DC DS h0 (some (Value.int r)) hf 6 93 [(0, false, va_rf a0), (1, false, .int x1), (2, false, .int x2), (4, false, .int x4)] [] h dc ds := by
  unfold fn_X11_column_b93 at hr
  intro H locs cells slots ls hH hS hl hc hs
  have X := Y.1
  obtain ⟨v1, hv1, hr⟩ := mz_op_some hr
  have hv1 := Option.some.inj hv1
  refine mz_iinc (k := 3) X [(4, false, .int v1), (0, false, va_rf a0), (1, false, .int x1), (2, false, .int x2)] v1 dX11_column_93 hl rfl hv1 (by decide) rfl (fun ls hl => ?_)
  refine lv_goto (tgt := 46) X.1 X.2.1 dX11_column_96 (by decide) ?_
  exact hrc46 h a0 x1 x2 v1 _ _ hr H locs cells slots ls hH hS (mz_sub hl [1, 2, 3, 0] rfl) hc hs
def fn_X11_column_b46 : Nat → mz_H → (Option Nat) → Int32 → Int32 → Int32 → mz_Res Int32
  | 0, _, _, _, _, _ => none
  | n + 1, h, a0, x1, x2, x4 =>
    mz_op (mz_fI h a0 10 4) fun v1 =>
    if v1 ≤ x4 then
      mz_op (mz_fR h a0 10 5) fun v2 =>
      mz_op (mz_fR h a0 10 6) fun v3 =>
      mz_op (mz_pF h a0 10 5 (va_rf v3)) fun h =>
      mz_op (mz_pF h a0 10 6 (va_rf v2)) fun h =>
      mz_op (mz_fR h a0 10 5) fun v4 =>
      mz_op (mz_fI h v4 0 1) fun v5 =>
      mz_ret v5 h
    else
      mz_chk (mz_is h a0 10) <| mz_call (fn_X11_thingOf h a0 x4) fun v6 h =>
      mz_chk (mz_is h a0 10) <| mz_call (fn_X11_columnSlot h a0 v6 x1 x2) fun v7 h =>
      if v7 = none then
        fn_X11_column_b93 (fn_X11_column_b46 n) h a0 x1 x2 x4
      else
        mz_op (mz_fR h a0 10 6) fun v8 =>
        mz_chk (mz_is h v8 0) <| mz_call (fn_X0_take h v8 v7) fun v9 h =>
        if v9 = 0 then
          mz_chk (mz_is h a0 10) <| mz_call (fn_X11_comeTo h a0 7) fun v10 h =>
          mz_ret v10 h
        else
          fn_X11_column_b93 (fn_X11_column_b46 n) h a0 x1 x2 x4
set_option maxHeartbeats 4000000 in
set_option maxRecDepth 100000 in
theorem pf_X11_column_b46 (r : Int32) (Y : mz_Y p g RX11 cX11_column 6 (some .int) "column" (mz_AF h0) s m args meth c) : ∀ (n : Nat) (h : mz_H) (a0 : (Option Nat)) (x1 : Int32) (x2 : Int32) (x4 : Int32) (dc ds : Nat), fn_X11_column_b46 n h a0 x1 x2 x4 = some (r, hf, dc, ds) → mz_Go l g p e s m args below meth c 68 2614 DC DS h0 (some (Value.int r)) hf 6 46 [(0, false, va_rf a0), (1, false, .int x1), (2, false, .int x2), (4, false, .int x4)] [] h dc ds := by
  have X := Y.1
  intro n
  induction n with
  | zero => intro h a0 x1 x2 x4 dc ds hr; simp [fn_X11_column_b46] at hr
  | succ n ih =>
    intro h a0 x1 x2 x4 dc ds hr
    rw [fn_X11_column_b46] at hr
    intro H locs cells slots ls hH hS hl hc hs
    refine lv_iload X.1 X.2.1 dX11_column_46 (mz_at hl 3 rfl) ?_
    refine mz_aload_n X dX11_column_48 rfl (mz_at hl 0 rfl) ?_
    refine mz_getI X hH fl_RX11_198 dX11_column_49 hr (fun v1 hr => ?_)
    refine mz_icmp_ge X 99 dX11_column_52 (by decide) hr (fun hr => ?_) (fun hr => ?_)
    · refine mz_aload_n X dX11_column_99 rfl (mz_at hl 0 rfl) ?_
      refine mz_getR X hH fl_RX11_35 dX11_column_100 hr (fun v2 hr => ?_)
      refine mz_astore X [(4, false, va_rf v2), (0, false, va_rf a0), (1, false, .int x1), (2, false, .int x2)] dX11_column_103 hl (by decide) rfl (fun ls hl => ?_)
      refine mz_aload_n X dX11_column_105 rfl (mz_at hl 1 rfl) ?_
      refine mz_aload_n X dX11_column_106 rfl (mz_at hl 1 rfl) ?_
      refine mz_getR X hH fl_RX11_39 dX11_column_107 hr (fun v3 hr => ?_)
      refine mz_put X hH hS fp_RX11_35 dX11_column_110 (mz_nrf _ _).1 (mz_nrf _ _).2 hr (fun h H locs hr hH hS => ?_)
      refine mz_aload_n X dX11_column_113 rfl (mz_at hl 1 rfl) ?_
      refine mz_aload X dX11_column_114 (mz_at hl 0 rfl) ?_
      refine mz_put X hH hS fp_RX11_39 dX11_column_116 (mz_nrf _ _).1 (mz_nrf _ _).2 hr (fun h H locs hr hH hS => ?_)
      refine mz_aload_n X dX11_column_119 rfl (mz_at hl 1 rfl) ?_
      refine mz_getR X hH fl_RX11_35 dX11_column_120 hr (fun v4 hr => ?_)
      refine mz_getI X hH fl_RX11_340 dX11_column_123 hr (fun v5 hr => ?_)
      exact mz_iret Y dX11_column_126 hH hS hc hs hr
    · refine mz_aload_n X dX11_column_55 rfl (mz_at hl 0 rfl) ?_
      refine mz_aload_n X dX11_column_56 rfl (mz_at hl 0 rfl) ?_
      refine lv_iload X.1 X.2.1 dX11_column_57 (mz_at hl 3 rfl) ?_
      refine mz_kV va_rf X hH hS hl.1.1 [.int x4] [va_rf a0] hr (ct_X11_thingOf l g h a0 x4) mb_RX11_212 rfl im_X11_thingOf rfl (Nat.le_of_ble_eq_true rfl) ⟨Nat.le_of_ble_eq_true rfl, Nat.le_of_ble_eq_true rfl⟩ hc hs dX11_column_59 rfl (fun v6 h H locs cells slots dc ds hr hH hS hc hs => ?_)
      refine lv_iload_n X.1 X.2.1 dX11_column_62 rfl (mz_at hl 1 rfl) ?_
      refine lv_iload_n X.1 X.2.1 dX11_column_63 rfl (mz_at hl 2 rfl) ?_
      refine mz_kV va_rf X hH hS hl.1.1 [va_rf v6, .int x1, .int x2] [] hr (ct_X11_columnSlot l g h a0 v6 x1 x2) mb_RX11_332 rfl im_X11_columnSlot rfl (Nat.le_of_ble_eq_true rfl) ⟨Nat.le_of_ble_eq_true rfl, Nat.le_of_ble_eq_true rfl⟩ hc hs dX11_column_64 rfl (fun v7 h H locs cells slots dc ds hr hH hS hc hs => ?_)
      refine mz_astore X [(5, false, va_rf v7), (0, false, va_rf a0), (1, false, .int x1), (2, false, .int x2), (4, false, .int x4)] dX11_column_67 hl (by decide) rfl (fun ls hl => ?_)
      refine mz_aload X dX11_column_69 (mz_at hl 0 rfl) ?_
      refine mz_ifnull X 93 dX11_column_71 (by decide) hr (fun hr => ?_) (fun hr => ?_)
      · exact pf_X11_column_b93 r Y ih h a0 x1 x2 x4 _ _ hr H locs cells slots ls hH hS (mz_sub hl [1, 2, 3, 4] rfl) hc hs
      · refine mz_aload_n X dX11_column_74 rfl (mz_at hl 1 rfl) ?_
        refine mz_getR X hH fl_RX11_39 dX11_column_75 hr (fun v8 hr => ?_)
        refine mz_aload X dX11_column_78 (mz_at hl 0 rfl) ?_
        refine mz_kV Value.int X hH hS hl.1.1 [va_rf v7] [] hr (ct_X0_take l g h v8 v7) mb_RX11_336 rfl im_X0_take rfl (Nat.le_of_ble_eq_true rfl) ⟨Nat.le_of_ble_eq_true rfl, Nat.le_of_ble_eq_true rfl⟩ hc hs dX11_column_80 rfl (fun v9 h H locs cells slots dc ds hr hH hS hc hs => ?_)
        refine mz_if_ne X 93 dX11_column_83 (by decide) hr (fun hr => ?_) (fun hr => ?_)
        · exact pf_X11_column_b93 r Y ih h a0 x1 x2 x4 _ _ hr H locs cells slots ls hH hS (mz_sub hl [1, 2, 3, 4] rfl) hc hs
        · refine mz_aload_n X dX11_column_86 rfl (mz_at hl 1 rfl) ?_
          refine lv_bipush (v := 7) X.1 X.2.1 dX11_column_87 (by decide) ?_
          refine mz_kV Value.int X hH hS hl.1.1 [.int 7] [] hr (ct_X11_comeTo l g h a0 7) mb_RX11_195 rfl im_X11_comeTo rfl (Nat.le_of_ble_eq_true rfl) ⟨Nat.le_of_ble_eq_true rfl, Nat.le_of_ble_eq_true rfl⟩ hc hs dX11_column_89 rfl (fun v10 h H locs cells slots dc ds hr hH hS hc hs => ?_)
          exact mz_iret Y dX11_column_92 hH hS hc hs hr
def fn_X11_column (h : mz_H) (a0 : (Option Nat)) (x1 : Int32) (x2 : Int32) (x3 : Int32) : mz_Res Int32 :=
  mz_op (mz_pF h a0 10 8 (Value.int 0)) fun h =>
  mz_op (mz_fR h a0 10 0) fun v1 =>
  mz_chk (mz_is h v1 9) <| mz_call (fn_X10_typeOf h v1 x1) fun v2 h =>
  if v2 = none then
    mz_ret (-1) h
  else
    mz_call (fn_X11_isName h x2) fun v3 h =>
    if v3 = 0 then
      mz_ret (-2) h
    else
      mz_call (fn_X11_isNumberLane h x3) fun v4 h =>
      if v4 = 0 then
        mz_ret (-2) h
      else
        mz_op (mz_fR h a0 10 6) fun v5 =>
        mz_chk (mz_is h v5 0) <| mz_call (fn_X0_begin h v5 x3) fun _ h =>
        fn_X11_column_b46 1001 h a0 x1 x2 0
set_option maxHeartbeats 4000000 in
set_option maxRecDepth 100000 in
theorem pf_X11_column_b0 (r : Int32) (Y : mz_Y p g RX11 cX11_column 6 (some .int) "column" (mz_AF h0) s m args meth c) (h : mz_H) (a0 : (Option Nat)) (x1 : Int32) (x2 : Int32) (x3 : Int32) (dc ds : Nat) (hr : fn_X11_column h a0 x1 x2 x3 = some (r, hf, dc, ds)) : mz_Go l g p e s m args below meth c 68 2614 DC DS h0 (some (Value.int r)) hf 6 0 [(0, false, va_rf a0), (1, false, .int x1), (2, false, .int x2), (3, false, .int x3)] [] h dc ds := by
  unfold fn_X11_column at hr
  intro H locs cells slots ls hH hS hl hc hs
  have X := Y.1
  refine mz_aload_n X dX11_column_0 rfl (mz_at hl 0 rfl) ?_
  refine lv_iconst (v := 0) X.1 X.2.1 dX11_column_1 (by decide) ?_
  refine mz_put X hH hS fp_RX11_185 dX11_column_2 rfl rfl hr (fun h H locs hr hH hS => ?_)
  refine mz_aload_n X dX11_column_5 rfl (mz_at hl 0 rfl) ?_
  refine mz_getR X hH fl_RX11_10 dX11_column_6 hr (fun v1 hr => ?_)
  refine lv_iload_n X.1 X.2.1 dX11_column_9 rfl (mz_at hl 1 rfl) ?_
  refine mz_kV va_rf X hH hS hl.1.1 [.int x1] [] hr (ct_X10_typeOf l g h v1 x1) mb_RX11_48 rfl im_X10_typeOf rfl (Nat.le_of_ble_eq_true rfl) ⟨Nat.le_of_ble_eq_true rfl, Nat.le_of_ble_eq_true rfl⟩ hc hs dX11_column_10 rfl (fun v2 h H locs cells slots dc ds hr hH hS hc hs => ?_)
  refine mz_ifnonnull X 18 dX11_column_13 (by decide) hr (fun hr => ?_) (fun hr => ?_)
  · refine lv_iload_n X.1 X.2.1 dX11_column_18 rfl (mz_at hl 2 rfl) ?_
    refine mz_kS Value.int X hH hS hl.1.1 [.int x2] [] hr (ct_X11_isName l g h x2) mb_RX11_99 im_X11_isName rfl (Nat.le_of_ble_eq_true rfl) ⟨Nat.le_of_ble_eq_true rfl, Nat.le_of_ble_eq_true rfl⟩ hc hs dX11_column_19 rfl (fun v3 h H locs cells slots dc ds hr hH hS hc hs => ?_)
    refine mz_if_eq X 32 dX11_column_22 (by decide) hr (fun hr => ?_) (fun hr => ?_)
    · refine lv_bipush (v := (-2)) X.1 X.2.1 dX11_column_32 (by decide) ?_
      exact mz_iret Y dX11_column_34 hH hS hc hs hr
    · refine lv_iload_n X.1 X.2.1 dX11_column_25 rfl (mz_at hl 3 rfl) ?_
      refine mz_kS Value.int X hH hS hl.1.1 [.int x3] [] hr (ct_X11_isNumberLane l g h x3) mb_RX11_90 im_X11_isNumberLane rfl (Nat.le_of_ble_eq_true rfl) ⟨Nat.le_of_ble_eq_true rfl, Nat.le_of_ble_eq_true rfl⟩ hc hs dX11_column_26 rfl (fun v4 h H locs cells slots dc ds hr hH hS hc hs => ?_)
      refine mz_if_ne X 35 dX11_column_29 (by decide) hr (fun hr => ?_) (fun hr => ?_)
      · refine mz_aload_n X dX11_column_35 rfl (mz_at hl 0 rfl) ?_
        refine mz_getR X hH fl_RX11_39 dX11_column_36 hr (fun v5 hr => ?_)
        refine lv_iload_n X.1 X.2.1 dX11_column_39 rfl (mz_at hl 3 rfl) ?_
        refine mz_kV0 X hH hS hl.1.1 [.int x3] [] hr (ct_X0_begin l g h v5 x3) mb_RX11_329 rfl im_X0_begin rfl (Nat.le_of_ble_eq_true rfl) ⟨Nat.le_of_ble_eq_true rfl, Nat.le_of_ble_eq_true rfl⟩ hc hs dX11_column_40 rfl (fun _ h H locs cells slots dc ds hr hH hS hc hs => ?_)
        refine lv_iconst (v := 0) X.1 X.2.1 dX11_column_43 (by decide) ?_
        refine mz_istore X [(4, false, .int 0), (0, false, va_rf a0), (1, false, .int x1), (2, false, .int x2), (3, false, .int x3)] dX11_column_44 hl (by decide) rfl (fun ls hl => ?_)
        exact pf_X11_column_b46 r Y 1001 h a0 x1 x2 0 _ _ hr H locs cells slots ls hH hS (mz_sub hl [1, 2, 3, 0] rfl) hc hs
      · refine lv_bipush (v := (-2)) X.1 X.2.1 dX11_column_32 (by decide) ?_
        exact mz_iret Y dX11_column_34 hH hS hc hs hr
  · refine lv_iconst (v := (-1)) X.1 X.2.1 dX11_column_16 (by decide) ?_
    exact mz_iret Y dX11_column_17 hH hS hc hs hr
set_option maxRecDepth 100000 in
theorem ct_X11_column (l : Launch) (g : mz_G) (h : mz_H) (a0 : (Option Nat)) (x1 : Int32) (x2 : Int32) (x3 : Int32) (r : Int32) (hf : mz_H) (k n : Nat) (hr : fn_X11_column h a0 x1 x2 x3 = some (r, hf, k, n)) : mz_C l g yX11_column cX11_column 6 (some .int) 68 2614 [va_rf a0, .int x1, .int x2, .int x3] h (some (Value.int r)) hf k n := by
  refine mz_met (as := [(false, va_rf a0), (false, .int x1), (false, .int x2), (false, .int x3)]) (plainFor_of_name (by decide)) (mz_c1 (mz_cat_rf _) (mz_c1 rfl (mz_c1 rfl (mz_c1 rfl mz_c0)))) (Nat.le_of_ble_eq_true rfl) ?_
  intro p e s m args below meth c Y
  exact pf_X11_column_b0 r Y h a0 x1 x2 x3 _ _ hr
theorem dX11_cell_0 : decode cX11_cell 0 = .ok (.aload_n 0, 1) := by decide +kernel
theorem dX11_cell_1 : decode cX11_cell 1 = .ok (.iconst 0, 1) := by decide +kernel
theorem dX11_cell_2 : decode cX11_cell 2 = .ok (.putfield 185, 3) := by decide +kernel
theorem dX11_cell_5 : decode cX11_cell 5 = .ok (.aload_n 0, 1) := by decide +kernel
theorem dX11_cell_6 : decode cX11_cell 6 = .ok (.getfield 35, 3) := by decide +kernel
theorem dX11_cell_9 : decode cX11_cell 9 = .ok (.getfield 341, 3) := by decide +kernel
theorem dX11_cell_12 : decode cX11_cell 12 = .ok (.ifCond .ne 5, 3) := by decide +kernel
theorem dX11_cell_15 : decode cX11_cell 15 = .ok (.lconst 0, 1) := by decide +kernel
theorem dX11_cell_16 : decode cX11_cell 16 = .ok (.lreturn, 1) := by decide +kernel
theorem dX11_cell_17 : decode cX11_cell 17 = .ok (.iload_n 1, 1) := by decide +kernel
theorem dX11_cell_18 : decode cX11_cell 18 = .ok (.ifCond .lt 14, 3) := by decide +kernel
theorem dX11_cell_21 : decode cX11_cell 21 = .ok (.iload_n 1, 1) := by decide +kernel
theorem dX11_cell_22 : decode cX11_cell 22 = .ok (.aload_n 0, 1) := by decide +kernel
theorem dX11_cell_23 : decode cX11_cell 23 = .ok (.getfield 35, 3) := by decide +kernel
theorem dX11_cell_26 : decode cX11_cell 26 = .ok (.getfield 340, 3) := by decide +kernel
theorem dX11_cell_29 : decode cX11_cell 29 = .ok (.if_icmp .lt 9, 3) := by decide +kernel
theorem dX11_cell_32 : decode cX11_cell 32 = .ok (.aload_n 0, 1) := by decide +kernel
theorem dX11_cell_33 : decode cX11_cell 33 = .ok (.iconst 3, 1) := by decide +kernel
theorem dX11_cell_34 : decode cX11_cell 34 = .ok (.invokevirtual 273, 3) := by decide +kernel
theorem dX11_cell_37 : decode cX11_cell 37 = .ok (.lreturn, 1) := by decide +kernel
theorem dX11_cell_38 : decode cX11_cell 38 = .ok (.aload_n 0, 1) := by decide +kernel
theorem dX11_cell_39 : decode cX11_cell 39 = .ok (.getfield 35, 3) := by decide +kernel
theorem dX11_cell_42 : decode cX11_cell 42 = .ok (.getfield 344, 3) := by decide +kernel
theorem dX11_cell_45 : decode cX11_cell 45 = .ok (.iload_n 1, 1) := by decide +kernel
theorem dX11_cell_46 : decode cX11_cell 46 = .ok (.laload, 1) := by decide +kernel
theorem dX11_cell_47 : decode cX11_cell 47 = .ok (.lreturn, 1) := by decide +kernel
def fn_X11_cell_b32 (h : mz_H) (a0 : (Option Nat)) : mz_Res Int64 :=
  mz_chk (mz_is h a0 10) <| mz_call (fn_X11_zeroAfter h a0 3) fun v1 h =>
  mz_ret v1 h
set_option maxHeartbeats 4000000 in
set_option maxRecDepth 100000 in
theorem pf_X11_cell_b32 (r : Int64) (Y : mz_Y p g RX11 cX11_cell 2 (some .long) "cell" (mz_AF h0) s m args meth c) (h : mz_H) (a0 : (Option Nat)) (dc ds : Nat) (hr : fn_X11_cell_b32 h a0 = some (r, hf, dc, ds)) : mz_Go l g p e s m args below meth c 2 42 DC DS h0 (some (Value.long r)) hf 2 32 [(0, false, va_rf a0)] [] h dc ds := by
  unfold fn_X11_cell_b32 at hr
  intro H locs cells slots ls hH hS hl hc hs
  have X := Y.1
  refine mz_aload_n X dX11_cell_32 rfl (mz_at hl 0 rfl) ?_
  refine lv_iconst (v := 3) X.1 X.2.1 dX11_cell_33 (by decide) ?_
  refine mz_kV Value.long X hH hS hl.1.1 [.int 3] [] hr (ct_X11_zeroAfter l g h a0 3) mb_RX11_273 rfl im_X11_zeroAfter rfl (Nat.le_of_ble_eq_true rfl) ⟨Nat.le_of_ble_eq_true rfl, Nat.le_of_ble_eq_true rfl⟩ hc hs dX11_cell_34 rfl (fun v1 h H locs cells slots dc ds hr hH hS hc hs => ?_)
  exact mz_lret Y dX11_cell_37 hH hS hc hs hr
def fn_X11_cell (h : mz_H) (a0 : (Option Nat)) (x1 : Int32) : mz_Res Int64 :=
  mz_op (mz_pF h a0 10 8 (Value.int 0)) fun h =>
  mz_op (mz_fR h a0 10 5) fun v1 =>
  mz_op (mz_fI h v1 0 3) fun v2 =>
  if v2 = 0 then
    mz_ret 0 h
  else
    if x1 < 0 then
      fn_X11_cell_b32 h a0
    else
      mz_op (mz_fR h a0 10 5) fun v3 =>
      mz_op (mz_fI h v3 0 1) fun v4 =>
      if x1 < v4 then
        mz_op (mz_fR h a0 10 5) fun v5 =>
        mz_op (mz_fR h v5 0 0) fun v6 =>
        mz_op (mz_aJ h v6 x1) fun v7 =>
        mz_ret v7 h
      else
        fn_X11_cell_b32 h a0
set_option maxHeartbeats 4000000 in
set_option maxRecDepth 100000 in
theorem pf_X11_cell_b0 (r : Int64) (Y : mz_Y p g RX11 cX11_cell 2 (some .long) "cell" (mz_AF h0) s m args meth c) (h : mz_H) (a0 : (Option Nat)) (x1 : Int32) (dc ds : Nat) (hr : fn_X11_cell h a0 x1 = some (r, hf, dc, ds)) : mz_Go l g p e s m args below meth c 2 42 DC DS h0 (some (Value.long r)) hf 2 0 [(0, false, va_rf a0), (1, false, .int x1)] [] h dc ds := by
  unfold fn_X11_cell at hr
  intro H locs cells slots ls hH hS hl hc hs
  have X := Y.1
  refine mz_aload_n X dX11_cell_0 rfl (mz_at hl 0 rfl) ?_
  refine lv_iconst (v := 0) X.1 X.2.1 dX11_cell_1 (by decide) ?_
  refine mz_put X hH hS fp_RX11_185 dX11_cell_2 rfl rfl hr (fun h H locs hr hH hS => ?_)
  refine mz_aload_n X dX11_cell_5 rfl (mz_at hl 0 rfl) ?_
  refine mz_getR X hH fl_RX11_35 dX11_cell_6 hr (fun v1 hr => ?_)
  refine mz_getI X hH fl_RX11_341 dX11_cell_9 hr (fun v2 hr => ?_)
  refine mz_if_ne X 17 dX11_cell_12 (by decide) hr (fun hr => ?_) (fun hr => ?_)
  · refine lv_iload_n X.1 X.2.1 dX11_cell_17 rfl (mz_at hl 1 rfl) ?_
    refine mz_if_lt X 32 dX11_cell_18 (by decide) hr (fun hr => ?_) (fun hr => ?_)
    · exact pf_X11_cell_b32 r Y h a0 _ _ hr H locs cells slots ls hH hS (mz_sub hl [0] rfl) hc hs
    · refine lv_iload_n X.1 X.2.1 dX11_cell_21 rfl (mz_at hl 1 rfl) ?_
      refine mz_aload_n X dX11_cell_22 rfl (mz_at hl 0 rfl) ?_
      refine mz_getR X hH fl_RX11_35 dX11_cell_23 hr (fun v3 hr => ?_)
      refine mz_getI X hH fl_RX11_340 dX11_cell_26 hr (fun v4 hr => ?_)
      refine mz_icmp_lt X 38 dX11_cell_29 (by decide) hr (fun hr => ?_) (fun hr => ?_)
      · refine mz_aload_n X dX11_cell_38 rfl (mz_at hl 0 rfl) ?_
        refine mz_getR X hH fl_RX11_35 dX11_cell_39 hr (fun v5 hr => ?_)
        refine mz_getR X hH fl_RX11_344 dX11_cell_42 hr (fun v6 hr => ?_)
        refine lv_iload_n X.1 X.2.1 dX11_cell_45 rfl (mz_at hl 1 rfl) ?_
        refine mz_lald X hH dX11_cell_46 hr (fun v7 hr => ?_)
        exact mz_lret Y dX11_cell_47 hH hS hc hs hr
      · exact pf_X11_cell_b32 r Y h a0 _ _ hr H locs cells slots ls hH hS (mz_sub hl [0] rfl) hc hs
  · refine lv_lconst (v := 0) X.1 X.2.1 dX11_cell_15 (by decide) ?_
    exact mz_lret Y dX11_cell_16 hH hS hc hs hr
set_option maxRecDepth 100000 in
theorem ct_X11_cell (l : Launch) (g : mz_G) (h : mz_H) (a0 : (Option Nat)) (x1 : Int32) (r : Int64) (hf : mz_H) (k n : Nat) (hr : fn_X11_cell h a0 x1 = some (r, hf, k, n)) : mz_C l g yX11_cell cX11_cell 2 (some .long) 2 42 [va_rf a0, .int x1] h (some (Value.long r)) hf k n := by
  refine mz_met (as := [(false, va_rf a0), (false, .int x1)]) (plainFor_of_name (by decide)) (mz_c1 (mz_cat_rf _) (mz_c1 rfl mz_c0)) (Nat.le_of_ble_eq_true rfl) ?_
  intro p e s m args below meth c Y
  exact pf_X11_cell_b0 r Y h a0 x1 _ _ hr
theorem dX11_fold_0 : decode cX11_fold 0 = .ok (.aload_n 0, 1) := by decide +kernel
theorem dX11_fold_1 : decode cX11_fold 1 = .ok (.getfield 35, 3) := by decide +kernel
theorem dX11_fold_4 : decode cX11_fold 4 = .ok (.iload_n 1, 1) := by decide +kernel
theorem dX11_fold_5 : decode cX11_fold 5 = .ok (.invokevirtual 345, 3) := by decide +kernel
theorem dX11_fold_8 : decode cX11_fold 8 = .ok (.lreturn, 1) := by decide +kernel
def fn_X11_fold (h : mz_H) (a0 : (Option Nat)) (x1 : Int32) : mz_Res Int64 :=
  mz_op (mz_fR h a0 10 5) fun v1 =>
  mz_chk (mz_is h v1 0) <| mz_call (fn_X0_folded h v1 x1) fun v2 h =>
  mz_ret v2 h
set_option maxHeartbeats 4000000 in
set_option maxRecDepth 100000 in
theorem pf_X11_fold_b0 (r : Int64) (Y : mz_Y p g RX11 cX11_fold 2 (some .long) "fold" (mz_AF h0) s m args meth c) (h : mz_H) (a0 : (Option Nat)) (x1 : Int32) (dc ds : Nat) (hr : fn_X11_fold h a0 x1 = some (r, hf, dc, ds)) : mz_Go l g p e s m args below meth c 6 166 DC DS h0 (some (Value.long r)) hf 2 0 [(0, false, va_rf a0), (1, false, .int x1)] [] h dc ds := by
  unfold fn_X11_fold at hr
  intro H locs cells slots ls hH hS hl hc hs
  have X := Y.1
  refine mz_aload_n X dX11_fold_0 rfl (mz_at hl 0 rfl) ?_
  refine mz_getR X hH fl_RX11_35 dX11_fold_1 hr (fun v1 hr => ?_)
  refine lv_iload_n X.1 X.2.1 dX11_fold_4 rfl (mz_at hl 1 rfl) ?_
  refine mz_kV Value.long X hH hS hl.1.1 [.int x1] [] hr (ct_X0_folded l g h v1 x1) mb_RX11_345 rfl im_X0_folded rfl (Nat.le_of_ble_eq_true rfl) ⟨Nat.le_of_ble_eq_true rfl, Nat.le_of_ble_eq_true rfl⟩ hc hs dX11_fold_5 rfl (fun v2 h H locs cells slots dc ds hr hH hS hc hs => ?_)
  exact mz_lret Y dX11_fold_8 hH hS hc hs hr
set_option maxRecDepth 100000 in
theorem ct_X11_fold (l : Launch) (g : mz_G) (h : mz_H) (a0 : (Option Nat)) (x1 : Int32) (r : Int64) (hf : mz_H) (k n : Nat) (hr : fn_X11_fold h a0 x1 = some (r, hf, k, n)) : mz_C l g yX11_fold cX11_fold 2 (some .long) 6 166 [va_rf a0, .int x1] h (some (Value.long r)) hf k n := by
  refine mz_met (as := [(false, va_rf a0), (false, .int x1)]) (plainFor_of_name (by decide)) (mz_c1 (mz_cat_rf _) (mz_c1 rfl mz_c0)) (Nat.le_of_ble_eq_true rfl) ?_
  intro p e s m args below meth c Y
  exact pf_X11_fold_b0 r Y h a0 x1 _ _ hr
theorem dX11_at_0 : decode cX11_at 0 = .ok (.aload_n 0, 1) := by decide +kernel
theorem dX11_at_1 : decode cX11_at 1 = .ok (.iconst 0, 1) := by decide +kernel
theorem dX11_at_2 : decode cX11_at 2 = .ok (.putfield 185, 3) := by decide +kernel
theorem dX11_at_5 : decode cX11_at 5 = .ok (.aload_n 0, 1) := by decide +kernel
theorem dX11_at_6 : decode cX11_at 6 = .ok (.iload_n 1, 1) := by decide +kernel
theorem dX11_at_7 : decode cX11_at 7 = .ok (.iload_n 2, 1) := by decide +kernel
theorem dX11_at_8 : decode cX11_at 8 = .ok (.invokevirtual 226, 3) := by decide +kernel
theorem dX11_at_11 : decode cX11_at 11 = .ok (.astore 5, 2) := by decide +kernel
theorem dX11_at_13 : decode cX11_at 13 = .ok (.aload 5, 2) := by decide +kernel
theorem dX11_at_15 : decode cX11_at 15 = .ok (.ifnull 10, 3) := by decide +kernel
theorem dX11_at_18 : decode cX11_at 18 = .ok (.lload_n 3, 1) := by decide +kernel
theorem dX11_at_19 : decode cX11_at 19 = .ok (.invokestatic 348, 3) := by decide +kernel
theorem dX11_at_22 : decode cX11_at 22 = .ok (.ifCond .ne 7, 3) := by decide +kernel
theorem dX11_at_25 : decode cX11_at 25 = .ok (.ldc2_w 351, 3) := by decide +kernel
theorem dX11_at_28 : decode cX11_at 28 = .ok (.lreturn, 1) := by decide +kernel
theorem dX11_at_29 : decode cX11_at 29 = .ok (.aload 5, 2) := by decide +kernel
theorem dX11_at_31 : decode cX11_at 31 = .ok (.getfield 234, 3) := by decide +kernel
theorem dX11_at_34 : decode cX11_at 34 = .ok (.iconst 1, 1) := by decide +kernel
theorem dX11_at_35 : decode cX11_at 35 = .ok (.if_icmp .ne 22, 3) := by decide +kernel
theorem dX11_at_38 : decode cX11_at 38 = .ok (.aload 5, 2) := by decide +kernel
theorem dX11_at_40 : decode cX11_at 40 = .ok (.getfield 233, 3) := by decide +kernel
theorem dX11_at_43 : decode cX11_at 43 = .ok (.iconst 5, 1) := by decide +kernel
theorem dX11_at_44 : decode cX11_at 44 = .ok (.if_icmp .eq 17, 3) := by decide +kernel
theorem dX11_at_47 : decode cX11_at 47 = .ok (.aload 5, 2) := by decide +kernel
theorem dX11_at_49 : decode cX11_at 49 = .ok (.getfield 233, 3) := by decide +kernel
theorem dX11_at_52 : decode cX11_at 52 = .ok (.bipush 6, 2) := by decide +kernel
theorem dX11_at_54 : decode cX11_at 54 = .ok (.if_icmp .eq 7, 3) := by decide +kernel
theorem dX11_at_57 : decode cX11_at 57 = .ok (.ldc2_w 351, 3) := by decide +kernel
theorem dX11_at_60 : decode cX11_at 60 = .ok (.lreturn, 1) := by decide +kernel
theorem dX11_at_61 : decode cX11_at 61 = .ok (.aload 5, 2) := by decide +kernel
theorem dX11_at_63 : decode cX11_at 63 = .ok (.getfield 298, 3) := by decide +kernel
theorem dX11_at_66 : decode cX11_at 66 = .ok (.ifnonnull 13, 3) := by decide +kernel
theorem dX11_at_69 : decode cX11_at 69 = .ok (.aload_n 0, 1) := by decide +kernel
theorem dX11_at_70 : decode cX11_at 70 = .ok (.iconst 1, 1) := by decide +kernel
theorem dX11_at_71 : decode cX11_at 71 = .ok (.invokevirtual 195, 3) := by decide +kernel
theorem dX11_at_74 : decode cX11_at 74 = .ok (.pop, 1) := by decide +kernel
theorem dX11_at_75 : decode cX11_at 75 = .ok (.ldc2_w 351, 3) := by decide +kernel
theorem dX11_at_78 : decode cX11_at 78 = .ok (.lreturn, 1) := by decide +kernel
theorem dX11_at_79 : decode cX11_at 79 = .ok (.aload 5, 2) := by decide +kernel
theorem dX11_at_81 : decode cX11_at 81 = .ok (.getfield 298, 3) := by decide +kernel
theorem dX11_at_84 : decode cX11_at 84 = .ok (.getfield 261, 3) := by decide +kernel
theorem dX11_at_87 : decode cX11_at 87 = .ok (.arraylength, 1) := by decide +kernel
theorem dX11_at_88 : decode cX11_at 88 = .ok (.ifCond .ne 14, 3) := by decide +kernel
theorem dX11_at_91 : decode cX11_at 91 = .ok (.aload_n 0, 1) := by decide +kernel
theorem dX11_at_92 : decode cX11_at 92 = .ok (.bipush 6, 2) := by decide +kernel
theorem dX11_at_94 : decode cX11_at 94 = .ok (.invokevirtual 195, 3) := by decide +kernel
theorem dX11_at_97 : decode cX11_at 97 = .ok (.pop, 1) := by decide +kernel
theorem dX11_at_98 : decode cX11_at 98 = .ok (.ldc2_w 351, 3) := by decide +kernel
theorem dX11_at_101 : decode cX11_at 101 = .ok (.lreturn, 1) := by decide +kernel
theorem dX11_at_102 : decode cX11_at 102 = .ok (.aload 5, 2) := by decide +kernel
theorem dX11_at_104 : decode cX11_at 104 = .ok (.getfield 298, 3) := by decide +kernel
theorem dX11_at_107 : decode cX11_at 107 = .ok (.lload_n 3, 1) := by decide +kernel
theorem dX11_at_108 : decode cX11_at 108 = .ok (.invokevirtual 353, 3) := by decide +kernel
theorem dX11_at_111 : decode cX11_at 111 = .ok (.lreturn, 1) := by decide +kernel
def fn_X11_at_b61 (h : mz_H) (a0 : (Option Nat)) (j3 : Int64) (a5 : (Option Nat)) : mz_Res Int64 :=
  mz_op (mz_fR h a5 5 4) fun v1 =>
  if v1 = none then
    mz_chk (mz_is h a0 10) <| mz_call (fn_X11_comeTo h a0 1) fun v8 h =>
    mz_ret 9221120237041090560 h
  else
    mz_op (mz_fR h a5 5 4) fun v2 =>
    mz_op (mz_fR h v2 4 0) fun v3 =>
    mz_op (mz_len h v3 1) fun v4 =>
    if v4 = 0 then
      mz_chk (mz_is h a0 10) <| mz_call (fn_X11_comeTo h a0 6) fun v7 h =>
      mz_ret 9221120237041090560 h
    else
      mz_op (mz_fR h a5 5 4) fun v5 =>
      mz_chk (mz_is h v5 4) <| mz_call (fn_X5_curveAt h v5 j3) fun v6 h =>
      mz_ret v6 h
set_option maxHeartbeats 4000000 in
set_option maxRecDepth 100000 in
theorem pf_X11_at_b61 (r : Int64) (Y : mz_Y p g RX11 cX11_at 6 (some .long) "at" (mz_AF h0) s m args meth c) (h : mz_H) (a0 : (Option Nat)) (j3 : Int64) (a5 : (Option Nat)) (dc ds : Nat) (hr : fn_X11_at_b61 h a0 j3 a5 = some (r, hf, dc, ds)) : mz_Go l g p e s m args below meth c 5 156 DC DS h0 (some (Value.long r)) hf 6 61 [(0, false, va_rf a0), (3, true, .long j3), (5, false, va_rf a5)] [] h dc ds := by
  unfold fn_X11_at_b61 at hr
  intro H locs cells slots ls hH hS hl hc hs
  have X := Y.1
  refine mz_aload X dX11_at_61 (mz_at hl 2 rfl) ?_
  refine mz_getR X hH fl_RX11_298 dX11_at_63 hr (fun v1 hr => ?_)
  refine mz_ifnonnull X 79 dX11_at_66 (by decide) hr (fun hr => ?_) (fun hr => ?_)
  · refine mz_aload X dX11_at_79 (mz_at hl 2 rfl) ?_
    refine mz_getR X hH fl_RX11_298 dX11_at_81 hr (fun v2 hr => ?_)
    refine mz_getR X hH fl_RX11_261 dX11_at_84 hr (fun v3 hr => ?_)
    refine mz_alen (t := 1) X hH (by decide) dX11_at_87 hr (fun v4 hr => ?_)
    refine mz_if_ne X 102 dX11_at_88 (by decide) hr (fun hr => ?_) (fun hr => ?_)
    · refine mz_aload X dX11_at_102 (mz_at hl 2 rfl) ?_
      refine mz_getR X hH fl_RX11_298 dX11_at_104 hr (fun v5 hr => ?_)
      refine lv_lload_n X.1 X.2.1 dX11_at_107 rfl (mz_at hl 1 rfl) ?_
      refine mz_kV Value.long X hH hS hl.1.1 [.long j3] [] hr (ct_X5_curveAt l g h v5 j3) mb_RX11_353 rfl im_X5_curveAt rfl (Nat.le_of_ble_eq_true rfl) ⟨Nat.le_of_ble_eq_true rfl, Nat.le_of_ble_eq_true rfl⟩ hc hs dX11_at_108 rfl (fun v6 h H locs cells slots dc ds hr hH hS hc hs => ?_)
      exact mz_lret Y dX11_at_111 hH hS hc hs hr
    · refine mz_aload_n X dX11_at_91 rfl (mz_at hl 0 rfl) ?_
      refine lv_bipush (v := 6) X.1 X.2.1 dX11_at_92 (by decide) ?_
      refine mz_kV Value.int X hH hS hl.1.1 [.int 6] [] hr (ct_X11_comeTo l g h a0 6) mb_RX11_195 rfl im_X11_comeTo rfl (Nat.le_of_ble_eq_true rfl) ⟨Nat.le_of_ble_eq_true rfl, Nat.le_of_ble_eq_true rfl⟩ hc hs dX11_at_94 rfl (fun v7 h H locs cells slots dc ds hr hH hS hc hs => ?_)
      refine lv_pop X.1 X.2.1 dX11_at_97 rfl ?_
      refine mz_ldc2 (v := 9221120237041090560) X (mz_tb 872 (by decide +kernel) rfl) dX11_at_98 ?_
      exact mz_lret Y dX11_at_101 hH hS hc hs hr
  · refine mz_aload_n X dX11_at_69 rfl (mz_at hl 0 rfl) ?_
    refine lv_iconst (v := 1) X.1 X.2.1 dX11_at_70 (by decide) ?_
    refine mz_kV Value.int X hH hS hl.1.1 [.int 1] [] hr (ct_X11_comeTo l g h a0 1) mb_RX11_195 rfl im_X11_comeTo rfl (Nat.le_of_ble_eq_true rfl) ⟨Nat.le_of_ble_eq_true rfl, Nat.le_of_ble_eq_true rfl⟩ hc hs dX11_at_71 rfl (fun v8 h H locs cells slots dc ds hr hH hS hc hs => ?_)
    refine lv_pop X.1 X.2.1 dX11_at_74 rfl ?_
    refine mz_ldc2 (v := 9221120237041090560) X (mz_tb 872 (by decide +kernel) rfl) dX11_at_75 ?_
    exact mz_lret Y dX11_at_78 hH hS hc hs hr
def fn_X11_at (h : mz_H) (a0 : (Option Nat)) (x1 : Int32) (x2 : Int32) (j3 : Int64) : mz_Res Int64 :=
  mz_op (mz_pF h a0 10 8 (Value.int 0)) fun h =>
  mz_chk (mz_is h a0 10) <| mz_call (fn_X11_slotOf h a0 x1 x2) fun v1 h =>
  if v1 = none then
    mz_ret 9221120237041090560 h
  else
    mz_call (fn_X3_isFinite h j3) fun v2 h =>
    if v2 = 0 then
      mz_ret 9221120237041090560 h
    else
      mz_op (mz_fI h v1 5 2) fun v3 =>
      if v3 = 1 then
        mz_op (mz_fI h v1 5 1) fun v4 =>
        if v4 = 5 then
          fn_X11_at_b61 h a0 j3 v1
        else
          mz_op (mz_fI h v1 5 1) fun v5 =>
          if v5 = 6 then
            fn_X11_at_b61 h a0 j3 v1
          else
            mz_ret 9221120237041090560 h
      else
        mz_ret 9221120237041090560 h
set_option maxHeartbeats 4000000 in
set_option maxRecDepth 100000 in
theorem pf_X11_at_b0 (r : Int64) (Y : mz_Y p g RX11 cX11_at 6 (some .long) "at" (mz_AF h0) s m args meth c) (h : mz_H) (a0 : (Option Nat)) (x1 : Int32) (x2 : Int32) (j3 : Int64) (dc ds : Nat) (hr : fn_X11_at h a0 x1 x2 j3 = some (r, hf, dc, ds)) : mz_Go l g p e s m args below meth c 5 156 DC DS h0 (some (Value.long r)) hf 6 0 [(0, false, va_rf a0), (1, false, .int x1), (2, false, .int x2), (3, true, .long j3)] [] h dc ds := by
  unfold fn_X11_at at hr
  intro H locs cells slots ls hH hS hl hc hs
  have X := Y.1
  refine mz_aload_n X dX11_at_0 rfl (mz_at hl 0 rfl) ?_
  refine lv_iconst (v := 0) X.1 X.2.1 dX11_at_1 (by decide) ?_
  refine mz_put X hH hS fp_RX11_185 dX11_at_2 rfl rfl hr (fun h H locs hr hH hS => ?_)
  refine mz_aload_n X dX11_at_5 rfl (mz_at hl 0 rfl) ?_
  refine lv_iload_n X.1 X.2.1 dX11_at_6 rfl (mz_at hl 1 rfl) ?_
  refine lv_iload_n X.1 X.2.1 dX11_at_7 rfl (mz_at hl 2 rfl) ?_
  refine mz_kV va_rf X hH hS hl.1.1 [.int x1, .int x2] [] hr (ct_X11_slotOf l g h a0 x1 x2) mb_RX11_226 rfl im_X11_slotOf rfl (Nat.le_of_ble_eq_true rfl) ⟨Nat.le_of_ble_eq_true rfl, Nat.le_of_ble_eq_true rfl⟩ hc hs dX11_at_8 rfl (fun v1 h H locs cells slots dc ds hr hH hS hc hs => ?_)
  refine mz_astore X [(5, false, va_rf v1), (0, false, va_rf a0), (1, false, .int x1), (2, false, .int x2), (3, true, .long j3)] dX11_at_11 hl (by decide) rfl (fun ls hl => ?_)
  refine mz_aload X dX11_at_13 (mz_at hl 0 rfl) ?_
  refine mz_ifnull X 25 dX11_at_15 (by decide) hr (fun hr => ?_) (fun hr => ?_)
  · refine mz_ldc2 (v := 9221120237041090560) X (mz_tb 872 (by decide +kernel) rfl) dX11_at_25 ?_
    exact mz_lret Y dX11_at_28 hH hS hc hs hr
  · refine lv_lload_n X.1 X.2.1 dX11_at_18 rfl (mz_at hl 4 rfl) ?_
    refine mz_kS Value.int X hH hS hl.1.1 [.long j3] [] hr (ct_X3_isFinite l g h j3) mb_RX11_348 im_X3_isFinite rfl (Nat.le_of_ble_eq_true rfl) ⟨Nat.le_of_ble_eq_true rfl, Nat.le_of_ble_eq_true rfl⟩ hc hs dX11_at_19 rfl (fun v2 h H locs cells slots dc ds hr hH hS hc hs => ?_)
    refine mz_if_ne X 29 dX11_at_22 (by decide) hr (fun hr => ?_) (fun hr => ?_)
    · refine mz_aload X dX11_at_29 (mz_at hl 0 rfl) ?_
      refine mz_getI X hH fl_RX11_234 dX11_at_31 hr (fun v3 hr => ?_)
      refine lv_iconst (v := 1) X.1 X.2.1 dX11_at_34 (by decide) ?_
      refine mz_icmp_ne X 57 dX11_at_35 (by decide) hr (fun hr => ?_) (fun hr => ?_)
      · refine mz_ldc2 (v := 9221120237041090560) X (mz_tb 872 (by decide +kernel) rfl) dX11_at_57 ?_
        exact mz_lret Y dX11_at_60 hH hS hc hs hr
      · refine mz_aload X dX11_at_38 (mz_at hl 0 rfl) ?_
        refine mz_getI X hH fl_RX11_233 dX11_at_40 hr (fun v4 hr => ?_)
        refine lv_iconst (v := 5) X.1 X.2.1 dX11_at_43 (by decide) ?_
        refine mz_icmp_eq X 61 dX11_at_44 (by decide) hr (fun hr => ?_) (fun hr => ?_)
        · exact pf_X11_at_b61 r Y h a0 j3 v1 _ _ hr H locs cells slots ls hH hS (mz_sub hl [1, 4, 0] rfl) hc hs
        · refine mz_aload X dX11_at_47 (mz_at hl 0 rfl) ?_
          refine mz_getI X hH fl_RX11_233 dX11_at_49 hr (fun v5 hr => ?_)
          refine lv_bipush (v := 6) X.1 X.2.1 dX11_at_52 (by decide) ?_
          refine mz_icmp_eq X 61 dX11_at_54 (by decide) hr (fun hr => ?_) (fun hr => ?_)
          · exact pf_X11_at_b61 r Y h a0 j3 v1 _ _ hr H locs cells slots ls hH hS (mz_sub hl [1, 4, 0] rfl) hc hs
          · refine mz_ldc2 (v := 9221120237041090560) X (mz_tb 872 (by decide +kernel) rfl) dX11_at_57 ?_
            exact mz_lret Y dX11_at_60 hH hS hc hs hr
    · refine mz_ldc2 (v := 9221120237041090560) X (mz_tb 872 (by decide +kernel) rfl) dX11_at_25 ?_
      exact mz_lret Y dX11_at_28 hH hS hc hs hr
set_option maxRecDepth 100000 in
theorem ct_X11_at (l : Launch) (g : mz_G) (h : mz_H) (a0 : (Option Nat)) (x1 : Int32) (x2 : Int32) (j3 : Int64) (r : Int64) (hf : mz_H) (k n : Nat) (hr : fn_X11_at h a0 x1 x2 j3 = some (r, hf, k, n)) : mz_C l g yX11_at cX11_at 6 (some .long) 5 156 [va_rf a0, .int x1, .int x2, .long j3] h (some (Value.long r)) hf k n := by
  refine mz_met (as := [(false, va_rf a0), (false, .int x1), (false, .int x2), (true, .long j3)]) (plainFor_of_name (by decide)) (mz_c1 (mz_cat_rf _) (mz_c1 rfl (mz_c1 rfl (mz_c1 rfl mz_c0)))) (Nat.le_of_ble_eq_true rfl) ?_
  intro p e s m args below meth c Y
  exact pf_X11_at_b0 r Y h a0 x1 x2 j3 _ _ hr
theorem dX11_isList_0 : decode cX11_isList 0 = .ok (.iload_n 0, 1) := by decide +kernel
theorem dX11_isList_1 : decode cX11_isList 1 = .ok (.ifCond .lt 12, 3) := by decide +kernel
theorem dX11_isList_4 : decode cX11_isList 4 = .ok (.iload_n 0, 1) := by decide +kernel
theorem dX11_isList_5 : decode cX11_isList 5 = .ok (.iconst 4, 1) := by decide +kernel
theorem dX11_isList_6 : decode cX11_isList 6 = .ok (.if_icmp .ge 7, 3) := by decide +kernel
theorem dX11_isList_9 : decode cX11_isList 9 = .ok (.iconst 1, 1) := by decide +kernel
theorem dX11_isList_10 : decode cX11_isList 10 = .ok (.goto 4, 3) := by decide +kernel
theorem dX11_isList_13 : decode cX11_isList 13 = .ok (.iconst 0, 1) := by decide +kernel
theorem dX11_isList_14 : decode cX11_isList 14 = .ok (.ireturn, 1) := by decide +kernel
def fn_X11_isList (h : mz_H) (x0 : Int32) : mz_Res Int32 :=
  if x0 < 0 then
    mz_chk ((0 : Int32) &&& 1 == 0) (mz_ret 0 h)
  else
    if 4 ≤ x0 then
      mz_chk ((0 : Int32) &&& 1 == 0) (mz_ret 0 h)
    else
      mz_chk ((1 : Int32) &&& 1 == 1) (mz_ret 1 h)
set_option maxHeartbeats 4000000 in
set_option maxRecDepth 100000 in
theorem pf_X11_isList_b0 (r : Int32) (Y : mz_Y p g RX11 cX11_isList 1 (some .boolean) "isList" (mz_AF h0) s m args meth c) (h : mz_H) (x0 : Int32) (dc ds : Nat) (hr : fn_X11_isList h x0 = some (r, hf, dc, ds)) : mz_Go l g p e s m args below meth c 0 0 DC DS h0 (some (Value.int r)) hf 1 0 [(0, false, .int x0)] [] h dc ds := by
  unfold fn_X11_isList at hr
  intro H locs cells slots ls hH hS hl hc hs
  have X := Y.1
  refine lv_iload_n X.1 X.2.1 dX11_isList_0 rfl (mz_at hl 0 rfl) ?_
  refine mz_if_lt X 13 dX11_isList_1 (by decide) hr (fun hr => ?_) (fun hr => ?_)
  · refine lv_iconst (v := 0) X.1 X.2.1 dX11_isList_13 (by decide) ?_
    exact mz_zret Y dX11_isList_14 hH hS hc hs hr
  · refine lv_iload_n X.1 X.2.1 dX11_isList_4 rfl (mz_at hl 0 rfl) ?_
    refine lv_iconst (v := 4) X.1 X.2.1 dX11_isList_5 (by decide) ?_
    refine mz_icmp_ge X 13 dX11_isList_6 (by decide) hr (fun hr => ?_) (fun hr => ?_)
    · refine lv_iconst (v := 0) X.1 X.2.1 dX11_isList_13 (by decide) ?_
      exact mz_zret Y dX11_isList_14 hH hS hc hs hr
    · refine lv_iconst (v := 1) X.1 X.2.1 dX11_isList_9 (by decide) ?_
      refine lv_goto (tgt := 14) X.1 X.2.1 dX11_isList_10 (by decide) ?_
      exact mz_zret Y dX11_isList_14 hH hS hc hs hr
set_option maxRecDepth 100000 in
theorem ct_X11_isList (l : Launch) (g : mz_G) (h : mz_H) (x0 : Int32) (r : Int32) (hf : mz_H) (k n : Nat) (hr : fn_X11_isList h x0 = some (r, hf, k, n)) : mz_C l g yX11_isList cX11_isList 1 (some .boolean) 0 0 [.int x0] h (some (Value.int r)) hf k n := by
  refine mz_met (as := [(false, .int x0)]) (plainFor_of_name (by decide)) (mz_c1 rfl mz_c0) (Nat.le_of_ble_eq_true rfl) ?_
  intro p e s m args below meth c Y
  exact pf_X11_isList_b0 r Y h x0 _ _ hr
theorem dX11_list_0 : decode cX11_list 0 = .ok (.aload_n 0, 1) := by decide +kernel
theorem dX11_list_1 : decode cX11_list 1 = .ok (.iconst 0, 1) := by decide +kernel
theorem dX11_list_2 : decode cX11_list 2 = .ok (.putfield 185, 3) := by decide +kernel
theorem dX11_list_5 : decode cX11_list 5 = .ok (.iload_n 1, 1) := by decide +kernel
theorem dX11_list_6 : decode cX11_list 6 = .ok (.invokestatic 357, 3) := by decide +kernel
theorem dX11_list_9 : decode cX11_list 9 = .ok (.ifCond .ne 5, 3) := by decide +kernel
theorem dX11_list_12 : decode cX11_list 12 = .ok (.iconst (-1), 1) := by decide +kernel
theorem dX11_list_13 : decode cX11_list 13 = .ok (.ireturn, 1) := by decide +kernel
theorem dX11_list_14 : decode cX11_list 14 = .ok (.iload_n 2, 1) := by decide +kernel
theorem dX11_list_15 : decode cX11_list 15 = .ok (.ifCond .lt 14, 3) := by decide +kernel
theorem dX11_list_18 : decode cX11_list 18 = .ok (.iload_n 2, 1) := by decide +kernel
theorem dX11_list_19 : decode cX11_list 19 = .ok (.iconst 2, 1) := by decide +kernel
theorem dX11_list_20 : decode cX11_list 20 = .ok (.if_icmp .gt 9, 3) := by decide +kernel
theorem dX11_list_23 : decode cX11_list 23 = .ok (.iload_n 3, 1) := by decide +kernel
theorem dX11_list_24 : decode cX11_list 24 = .ok (.bipush 8, 2) := by decide +kernel
theorem dX11_list_26 : decode cX11_list 26 = .ok (.if_icmp .le 6, 3) := by decide +kernel
theorem dX11_list_29 : decode cX11_list 29 = .ok (.bipush (-2), 2) := by decide +kernel
theorem dX11_list_31 : decode cX11_list 31 = .ok (.ireturn, 1) := by decide +kernel
theorem dX11_list_32 : decode cX11_list 32 = .ok (.iload_n 3, 1) := by decide +kernel
theorem dX11_list_33 : decode cX11_list 33 = .ok (.ifCond .ge 9, 3) := by decide +kernel
theorem dX11_list_36 : decode cX11_list 36 = .ok (.aload_n 0, 1) := by decide +kernel
theorem dX11_list_37 : decode cX11_list 37 = .ok (.iconst 5, 1) := by decide +kernel
theorem dX11_list_38 : decode cX11_list 38 = .ok (.invokevirtual 195, 3) := by decide +kernel
theorem dX11_list_41 : decode cX11_list 41 = .ok (.ireturn, 1) := by decide +kernel
theorem dX11_list_42 : decode cX11_list 42 = .ok (.aload_n 0, 1) := by decide +kernel
theorem dX11_list_43 : decode cX11_list 43 = .ok (.getfield 44, 3) := by decide +kernel
theorem dX11_list_46 : decode cX11_list 46 = .ok (.iload_n 1, 1) := by decide +kernel
theorem dX11_list_47 : decode cX11_list 47 = .ok (.new 42, 3) := by decide +kernel
theorem dX11_list_50 : decode cX11_list 50 = .ok (.dup, 1) := by decide +kernel
theorem dX11_list_51 : decode cX11_list 51 = .ok (.iload_n 2, 1) := by decide +kernel
theorem dX11_list_52 : decode cX11_list 52 = .ok (.iload_n 3, 1) := by decide +kernel
theorem dX11_list_53 : decode cX11_list 53 = .ok (.invokespecial 360, 3) := by decide +kernel
theorem dX11_list_56 : decode cX11_list 56 = .ok (.aastore, 1) := by decide +kernel
theorem dX11_list_57 : decode cX11_list 57 = .ok (.iconst 1, 1) := by decide +kernel
theorem dX11_list_58 : decode cX11_list 58 = .ok (.ireturn, 1) := by decide +kernel
def fn_X11_list (h : mz_H) (a0 : (Option Nat)) (x1 : Int32) (x2 : Int32) (x3 : Int32) : mz_Res Int32 :=
  mz_op (mz_pF h a0 10 8 (Value.int 0)) fun h =>
  mz_call (fn_X11_isList h x1) fun v1 h =>
  if v1 = 0 then
    mz_ret (-1) h
  else
    if x2 < 0 then
      mz_ret (-2) h
    else
      if 2 < x2 then
        mz_ret (-2) h
      else
        if x3 ≤ 8 then
          if 0 ≤ x3 then
            mz_op (mz_fR h a0 10 7) fun v2 =>
            mz_oN h 3 2 [.int 0, .null] fun v3 h =>
            mz_chk (mz_is h v3 3) <| mz_call (fn_X4_init h v3 x2 x3) fun _ h =>
            mz_op (mz_sR h v2 13 x1 v3) fun h =>
            mz_ret 1 h
          else
            mz_chk (mz_is h a0 10) <| mz_call (fn_X11_comeTo h a0 5) fun v4 h =>
            mz_ret v4 h
        else
          mz_ret (-2) h
set_option maxHeartbeats 4000000 in
set_option maxRecDepth 100000 in
theorem pf_X11_list_b0 (r : Int32) (Y : mz_Y p g RX11 cX11_list 4 (some .int) "list" (mz_AF h0) s m args meth c) (h : mz_H) (a0 : (Option Nat)) (x1 : Int32) (x2 : Int32) (x3 : Int32) (dc ds : Nat) (hr : fn_X11_list h a0 x1 x2 x3 = some (r, hf, dc, ds)) : mz_Go l g p e s m args below meth c 2 45 DC DS h0 (some (Value.int r)) hf 4 0 [(0, false, va_rf a0), (1, false, .int x1), (2, false, .int x2), (3, false, .int x3)] [] h dc ds := by
  unfold fn_X11_list at hr
  intro H locs cells slots ls hH hS hl hc hs
  have X := Y.1
  refine mz_aload_n X dX11_list_0 rfl (mz_at hl 0 rfl) ?_
  refine lv_iconst (v := 0) X.1 X.2.1 dX11_list_1 (by decide) ?_
  refine mz_put X hH hS fp_RX11_185 dX11_list_2 rfl rfl hr (fun h H locs hr hH hS => ?_)
  refine lv_iload_n X.1 X.2.1 dX11_list_5 rfl (mz_at hl 1 rfl) ?_
  refine mz_kS Value.int X hH hS hl.1.1 [.int x1] [] hr (ct_X11_isList l g h x1) mb_RX11_357 im_X11_isList rfl (Nat.le_of_ble_eq_true rfl) ⟨Nat.le_of_ble_eq_true rfl, Nat.le_of_ble_eq_true rfl⟩ hc hs dX11_list_6 rfl (fun v1 h H locs cells slots dc ds hr hH hS hc hs => ?_)
  refine mz_if_ne X 14 dX11_list_9 (by decide) hr (fun hr => ?_) (fun hr => ?_)
  · refine lv_iload_n X.1 X.2.1 dX11_list_14 rfl (mz_at hl 2 rfl) ?_
    refine mz_if_lt X 29 dX11_list_15 (by decide) hr (fun hr => ?_) (fun hr => ?_)
    · refine lv_bipush (v := (-2)) X.1 X.2.1 dX11_list_29 (by decide) ?_
      exact mz_iret Y dX11_list_31 hH hS hc hs hr
    · refine lv_iload_n X.1 X.2.1 dX11_list_18 rfl (mz_at hl 2 rfl) ?_
      refine lv_iconst (v := 2) X.1 X.2.1 dX11_list_19 (by decide) ?_
      refine mz_icmp_gt X 29 dX11_list_20 (by decide) hr (fun hr => ?_) (fun hr => ?_)
      · refine lv_bipush (v := (-2)) X.1 X.2.1 dX11_list_29 (by decide) ?_
        exact mz_iret Y dX11_list_31 hH hS hc hs hr
      · refine lv_iload_n X.1 X.2.1 dX11_list_23 rfl (mz_at hl 3 rfl) ?_
        refine lv_bipush (v := 8) X.1 X.2.1 dX11_list_24 (by decide) ?_
        refine mz_icmp_le X 32 dX11_list_26 (by decide) hr (fun hr => ?_) (fun hr => ?_)
        · refine lv_iload_n X.1 X.2.1 dX11_list_32 rfl (mz_at hl 3 rfl) ?_
          refine mz_if_ge X 42 dX11_list_33 (by decide) hr (fun hr => ?_) (fun hr => ?_)
          · refine mz_aload_n X dX11_list_42 rfl (mz_at hl 0 rfl) ?_
            refine mz_getR X hH fl_RX11_44 dX11_list_43 hr (fun v2 hr => ?_)
            refine lv_iload_n X.1 X.2.1 dX11_list_46 rfl (mz_at hl 1 rfl) ?_
            refine mz_kN X hH hS tyX4 rfl cl_3 tyX4_ok ⟨mz_tb 202 (by decide +kernel) rfl, mz_tb 907 (by decide +kernel) rfl, mz_tb 57 (by decide +kernel) rfl⟩ nw_3 dX11_list_47 hr hc hs (fun v3 h H cells slots dc ds hr hH hS hc hs => ?_)
            refine mz_dupR X dX11_list_50 ?_
            refine lv_iload_n X.1 X.2.1 dX11_list_51 rfl (mz_at hl 2 rfl) ?_
            refine lv_iload_n X.1 X.2.1 dX11_list_52 rfl (mz_at hl 3 rfl) ?_
            refine mz_kI X hH hS hl.1.1 [.int x2, .int x3] [va_rf v3, .int x1, va_rf v2] hr (ct_X4_init l g h v3 x2 x3) mb_RX11_360 im_X4_init rfl rfl (Nat.le_of_ble_eq_true rfl) ⟨Nat.le_of_ble_eq_true rfl, Nat.le_of_ble_eq_true rfl⟩ hc hs dX11_list_53 rfl (fun _ h H locs cells slots dc ds hr hH hS hc hs => ?_)
            refine mz_aast (t := 13) X hH hS (by decide) rfl rfl dX11_list_56 hr (fun h H locs hr hH hS => ?_)
            refine lv_iconst (v := 1) X.1 X.2.1 dX11_list_57 (by decide) ?_
            exact mz_iret Y dX11_list_58 hH hS hc hs hr
          · refine mz_aload_n X dX11_list_36 rfl (mz_at hl 0 rfl) ?_
            refine lv_iconst (v := 5) X.1 X.2.1 dX11_list_37 (by decide) ?_
            refine mz_kV Value.int X hH hS hl.1.1 [.int 5] [] hr (ct_X11_comeTo l g h a0 5) mb_RX11_195 rfl im_X11_comeTo rfl (Nat.le_of_ble_eq_true rfl) ⟨Nat.le_of_ble_eq_true rfl, Nat.le_of_ble_eq_true rfl⟩ hc hs dX11_list_38 rfl (fun v4 h H locs cells slots dc ds hr hH hS hc hs => ?_)
            exact mz_iret Y dX11_list_41 hH hS hc hs hr
        · refine lv_bipush (v := (-2)) X.1 X.2.1 dX11_list_29 (by decide) ?_
          exact mz_iret Y dX11_list_31 hH hS hc hs hr
  · refine lv_iconst (v := (-1)) X.1 X.2.1 dX11_list_12 (by decide) ?_
    exact mz_iret Y dX11_list_13 hH hS hc hs hr
set_option maxRecDepth 100000 in
theorem ct_X11_list (l : Launch) (g : mz_G) (h : mz_H) (a0 : (Option Nat)) (x1 : Int32) (x2 : Int32) (x3 : Int32) (r : Int32) (hf : mz_H) (k n : Nat) (hr : fn_X11_list h a0 x1 x2 x3 = some (r, hf, k, n)) : mz_C l g yX11_list cX11_list 4 (some .int) 2 45 [va_rf a0, .int x1, .int x2, .int x3] h (some (Value.int r)) hf k n := by
  refine mz_met (as := [(false, va_rf a0), (false, .int x1), (false, .int x2), (false, .int x3)]) (plainFor_of_name (by decide)) (mz_c1 (mz_cat_rf _) (mz_c1 rfl (mz_c1 rfl (mz_c1 rfl mz_c0)))) (Nat.le_of_ble_eq_true rfl) ?_
  intro p e s m args below meth c Y
  exact pf_X11_list_b0 r Y h a0 x1 x2 x3 _ _ hr
theorem dX11_stand_0 : decode cX11_stand 0 = .ok (.aload_n 0, 1) := by decide +kernel
theorem dX11_stand_1 : decode cX11_stand 1 = .ok (.iconst 0, 1) := by decide +kernel
theorem dX11_stand_2 : decode cX11_stand 2 = .ok (.putfield 185, 3) := by decide +kernel
theorem dX11_stand_5 : decode cX11_stand 5 = .ok (.aload_n 0, 1) := by decide +kernel
theorem dX11_stand_6 : decode cX11_stand 6 = .ok (.getfield 10, 3) := by decide +kernel
theorem dX11_stand_9 : decode cX11_stand 9 = .ok (.iload_n 3, 1) := by decide +kernel
theorem dX11_stand_10 : decode cX11_stand 10 = .ok (.invokevirtual 48, 3) := by decide +kernel
theorem dX11_stand_13 : decode cX11_stand 13 = .ok (.astore 4, 2) := by decide +kernel
theorem dX11_stand_15 : decode cX11_stand 15 = .ok (.iload_n 1, 1) := by decide +kernel
theorem dX11_stand_16 : decode cX11_stand 16 = .ok (.invokestatic 357, 3) := by decide +kernel
theorem dX11_stand_19 : decode cX11_stand 19 = .ok (.ifCond .eq 14, 3) := by decide +kernel
theorem dX11_stand_22 : decode cX11_stand 22 = .ok (.aload 4, 2) := by decide +kernel
theorem dX11_stand_24 : decode cX11_stand 24 = .ok (.ifnonnull 11, 3) := by decide +kernel
theorem dX11_stand_27 : decode cX11_stand 27 = .ok (.iload_n 3, 1) := by decide +kernel
theorem dX11_stand_28 : decode cX11_stand 28 = .ok (.bipush (-9), 2) := by decide +kernel
theorem dX11_stand_30 : decode cX11_stand 30 = .ok (.if_icmp .eq 5, 3) := by decide +kernel
theorem dX11_stand_33 : decode cX11_stand 33 = .ok (.iconst (-1), 1) := by decide +kernel
theorem dX11_stand_34 : decode cX11_stand 34 = .ok (.ireturn, 1) := by decide +kernel
theorem dX11_stand_35 : decode cX11_stand 35 = .ok (.aload_n 0, 1) := by decide +kernel
theorem dX11_stand_36 : decode cX11_stand 36 = .ok (.getfield 44, 3) := by decide +kernel
theorem dX11_stand_39 : decode cX11_stand 39 = .ok (.iload_n 1, 1) := by decide +kernel
theorem dX11_stand_40 : decode cX11_stand 40 = .ok (.aaload, 1) := by decide +kernel
theorem dX11_stand_41 : decode cX11_stand 41 = .ok (.astore 5, 2) := by decide +kernel
theorem dX11_stand_43 : decode cX11_stand 43 = .ok (.aload 5, 2) := by decide +kernel
theorem dX11_stand_45 : decode cX11_stand 45 = .ok (.ifnonnull 9, 3) := by decide +kernel
theorem dX11_stand_48 : decode cX11_stand 48 = .ok (.aload_n 0, 1) := by decide +kernel
theorem dX11_stand_49 : decode cX11_stand 49 = .ok (.iconst 1, 1) := by decide +kernel
theorem dX11_stand_50 : decode cX11_stand 50 = .ok (.invokevirtual 195, 3) := by decide +kernel
theorem dX11_stand_53 : decode cX11_stand 53 = .ok (.ireturn, 1) := by decide +kernel
theorem dX11_stand_54 : decode cX11_stand 54 = .ok (.aload 5, 2) := by decide +kernel
theorem dX11_stand_56 : decode cX11_stand 56 = .ok (.iload_n 2, 1) := by decide +kernel
theorem dX11_stand_57 : decode cX11_stand 57 = .ok (.invokevirtual 361, 3) := by decide +kernel
theorem dX11_stand_60 : decode cX11_stand 60 = .ok (.ifCond .ne 9, 3) := by decide +kernel
theorem dX11_stand_63 : decode cX11_stand 63 = .ok (.aload_n 0, 1) := by decide +kernel
theorem dX11_stand_64 : decode cX11_stand 64 = .ok (.iconst 3, 1) := by decide +kernel
theorem dX11_stand_65 : decode cX11_stand 65 = .ok (.invokevirtual 195, 3) := by decide +kernel
theorem dX11_stand_68 : decode cX11_stand 68 = .ok (.ireturn, 1) := by decide +kernel
theorem dX11_stand_69 : decode cX11_stand 69 = .ok (.aload 4, 2) := by decide +kernel
theorem dX11_stand_71 : decode cX11_stand 71 = .ok (.ifnull 19, 3) := by decide +kernel
theorem dX11_stand_74 : decode cX11_stand 74 = .ok (.aload 5, 2) := by decide +kernel
theorem dX11_stand_76 : decode cX11_stand 76 = .ok (.aload 4, 2) := by decide +kernel
theorem dX11_stand_78 : decode cX11_stand 78 = .ok (.invokevirtual 364, 3) := by decide +kernel
theorem dX11_stand_81 : decode cX11_stand 81 = .ok (.ifCond .ne 9, 3) := by decide +kernel
theorem dX11_stand_84 : decode cX11_stand 84 = .ok (.aload_n 0, 1) := by decide +kernel
theorem dX11_stand_85 : decode cX11_stand 85 = .ok (.iconst 4, 1) := by decide +kernel
theorem dX11_stand_86 : decode cX11_stand 86 = .ok (.invokevirtual 195, 3) := by decide +kernel
theorem dX11_stand_89 : decode cX11_stand 89 = .ok (.ireturn, 1) := by decide +kernel
theorem dX11_stand_90 : decode cX11_stand 90 = .ok (.aload 5, 2) := by decide +kernel
theorem dX11_stand_92 : decode cX11_stand 92 = .ok (.getfield 368, 3) := by decide +kernel
theorem dX11_stand_95 : decode cX11_stand 95 = .ok (.iload_n 2, 1) := by decide +kernel
theorem dX11_stand_96 : decode cX11_stand 96 = .ok (.iload_n 3, 1) := by decide +kernel
theorem dX11_stand_97 : decode cX11_stand 97 = .ok (.iastore, 1) := by decide +kernel
theorem dX11_stand_98 : decode cX11_stand 98 = .ok (.iconst 1, 1) := by decide +kernel
theorem dX11_stand_99 : decode cX11_stand 99 = .ok (.ireturn, 1) := by decide +kernel
def fn_X11_stand_b90 (h : mz_H) (x2 : Int32) (x3 : Int32) (a5 : (Option Nat)) : mz_Res Int32 :=
  mz_op (mz_fR h a5 3 1) fun v1 =>
  mz_op (mz_sI h v1 0 x2 x3) fun h =>
  mz_ret 1 h
set_option maxHeartbeats 4000000 in
set_option maxRecDepth 100000 in
theorem pf_X11_stand_b90 (r : Int32) (Y : mz_Y p g RX11 cX11_stand 6 (some .int) "stand" (mz_AF h0) s m args meth c) (h : mz_H) (x2 : Int32) (x3 : Int32) (a5 : (Option Nat)) (dc ds : Nat) (hr : fn_X11_stand_b90 h x2 x3 a5 = some (r, hf, dc, ds)) : mz_Go l g p e s m args below meth c 2 41 DC DS h0 (some (Value.int r)) hf 6 90 [(2, false, .int x2), (3, false, .int x3), (5, false, va_rf a5)] [] h dc ds := by
  unfold fn_X11_stand_b90 at hr
  intro H locs cells slots ls hH hS hl hc hs
  have X := Y.1
  refine mz_aload X dX11_stand_90 (mz_at hl 2 rfl) ?_
  refine mz_getR X hH fl_RX11_368 dX11_stand_92 hr (fun v1 hr => ?_)
  refine lv_iload_n X.1 X.2.1 dX11_stand_95 rfl (mz_at hl 0 rfl) ?_
  refine lv_iload_n X.1 X.2.1 dX11_stand_96 rfl (mz_at hl 1 rfl) ?_
  refine mz_iast X hH hS dX11_stand_97 hr (fun h H locs hr hH hS => ?_)
  refine lv_iconst (v := 1) X.1 X.2.1 dX11_stand_98 (by decide) ?_
  exact mz_iret Y dX11_stand_99 hH hS hc hs hr
def fn_X11_stand_b35 (h : mz_H) (a0 : (Option Nat)) (x1 : Int32) (x2 : Int32) (x3 : Int32) (a4 : (Option Nat)) : mz_Res Int32 :=
  mz_op (mz_fR h a0 10 7) fun v1 =>
  mz_op (mz_aR h v1 13 x1) fun v2 =>
  if v2 = none then
    mz_chk (mz_is h a0 10) <| mz_call (fn_X11_comeTo h a0 1) fun v7 h =>
    mz_ret v7 h
  else
    mz_chk (mz_is h v2 3) <| mz_call (fn_X4_has h v2 x2) fun v3 h =>
    if v3 = 0 then
      mz_chk (mz_is h a0 10) <| mz_call (fn_X11_comeTo h a0 3) fun v6 h =>
      mz_ret v6 h
    else
      if a4 = none then
        fn_X11_stand_b90 h x2 x3 v2
      else
        mz_chk (mz_is h v2 3) <| mz_call (fn_X4_takesType h v2 a4) fun v4 h =>
        if v4 = 0 then
          mz_chk (mz_is h a0 10) <| mz_call (fn_X11_comeTo h a0 4) fun v5 h =>
          mz_ret v5 h
        else
          fn_X11_stand_b90 h x2 x3 v2
set_option maxHeartbeats 4000000 in
set_option maxRecDepth 100000 in
theorem pf_X11_stand_b35 (r : Int32) (Y : mz_Y p g RX11 cX11_stand 6 (some .int) "stand" (mz_AF h0) s m args meth c) (h : mz_H) (a0 : (Option Nat)) (x1 : Int32) (x2 : Int32) (x3 : Int32) (a4 : (Option Nat)) (dc ds : Nat) (hr : fn_X11_stand_b35 h a0 x1 x2 x3 a4 = some (r, hf, dc, ds)) : mz_Go l g p e s m args below meth c 2 41 DC DS h0 (some (Value.int r)) hf 6 35 [(0, false, va_rf a0), (1, false, .int x1), (2, false, .int x2), (3, false, .int x3), (4, false, va_rf a4)] [] h dc ds := by
  unfold fn_X11_stand_b35 at hr
  intro H locs cells slots ls hH hS hl hc hs
  have X := Y.1
  refine mz_aload_n X dX11_stand_35 rfl (mz_at hl 0 rfl) ?_
  refine mz_getR X hH fl_RX11_44 dX11_stand_36 hr (fun v1 hr => ?_)
  refine lv_iload_n X.1 X.2.1 dX11_stand_39 rfl (mz_at hl 1 rfl) ?_
  refine mz_aald (t := 13) X hH (by decide) rfl dX11_stand_40 hr (fun v2 hr => ?_)
  refine mz_astore X [(5, false, va_rf v2), (0, false, va_rf a0), (1, false, .int x1), (2, false, .int x2), (3, false, .int x3), (4, false, va_rf a4)] dX11_stand_41 hl (by decide) rfl (fun ls hl => ?_)
  refine mz_aload X dX11_stand_43 (mz_at hl 0 rfl) ?_
  refine mz_ifnonnull X 54 dX11_stand_45 (by decide) hr (fun hr => ?_) (fun hr => ?_)
  · refine mz_aload X dX11_stand_54 (mz_at hl 0 rfl) ?_
    refine lv_iload_n X.1 X.2.1 dX11_stand_56 rfl (mz_at hl 3 rfl) ?_
    refine mz_kV Value.int X hH hS hl.1.1 [.int x2] [] hr (ct_X4_has l g h v2 x2) mb_RX11_361 rfl im_X4_has rfl (Nat.le_of_ble_eq_true rfl) ⟨Nat.le_of_ble_eq_true rfl, Nat.le_of_ble_eq_true rfl⟩ hc hs dX11_stand_57 rfl (fun v3 h H locs cells slots dc ds hr hH hS hc hs => ?_)
    refine mz_if_ne X 69 dX11_stand_60 (by decide) hr (fun hr => ?_) (fun hr => ?_)
    · refine mz_aload X dX11_stand_69 (mz_at hl 5 rfl) ?_
      refine mz_ifnull X 90 dX11_stand_71 (by decide) hr (fun hr => ?_) (fun hr => ?_)
      · exact pf_X11_stand_b90 r Y h x2 x3 v2 _ _ hr H locs cells slots ls hH hS (mz_sub hl [3, 4, 0] rfl) hc hs
      · refine mz_aload X dX11_stand_74 (mz_at hl 0 rfl) ?_
        refine mz_aload X dX11_stand_76 (mz_at hl 5 rfl) ?_
        refine mz_kV Value.int X hH hS hl.1.1 [va_rf a4] [] hr (ct_X4_takesType l g h v2 a4) mb_RX11_364 rfl im_X4_takesType rfl (Nat.le_of_ble_eq_true rfl) ⟨Nat.le_of_ble_eq_true rfl, Nat.le_of_ble_eq_true rfl⟩ hc hs dX11_stand_78 rfl (fun v4 h H locs cells slots dc ds hr hH hS hc hs => ?_)
        refine mz_if_ne X 90 dX11_stand_81 (by decide) hr (fun hr => ?_) (fun hr => ?_)
        · exact pf_X11_stand_b90 r Y h x2 x3 v2 _ _ hr H locs cells slots ls hH hS (mz_sub hl [3, 4, 0] rfl) hc hs
        · refine mz_aload_n X dX11_stand_84 rfl (mz_at hl 1 rfl) ?_
          refine lv_iconst (v := 4) X.1 X.2.1 dX11_stand_85 (by decide) ?_
          refine mz_kV Value.int X hH hS hl.1.1 [.int 4] [] hr (ct_X11_comeTo l g h a0 4) mb_RX11_195 rfl im_X11_comeTo rfl (Nat.le_of_ble_eq_true rfl) ⟨Nat.le_of_ble_eq_true rfl, Nat.le_of_ble_eq_true rfl⟩ hc hs dX11_stand_86 rfl (fun v5 h H locs cells slots dc ds hr hH hS hc hs => ?_)
          exact mz_iret Y dX11_stand_89 hH hS hc hs hr
    · refine mz_aload_n X dX11_stand_63 rfl (mz_at hl 1 rfl) ?_
      refine lv_iconst (v := 3) X.1 X.2.1 dX11_stand_64 (by decide) ?_
      refine mz_kV Value.int X hH hS hl.1.1 [.int 3] [] hr (ct_X11_comeTo l g h a0 3) mb_RX11_195 rfl im_X11_comeTo rfl (Nat.le_of_ble_eq_true rfl) ⟨Nat.le_of_ble_eq_true rfl, Nat.le_of_ble_eq_true rfl⟩ hc hs dX11_stand_65 rfl (fun v6 h H locs cells slots dc ds hr hH hS hc hs => ?_)
      exact mz_iret Y dX11_stand_68 hH hS hc hs hr
  · refine mz_aload_n X dX11_stand_48 rfl (mz_at hl 1 rfl) ?_
    refine lv_iconst (v := 1) X.1 X.2.1 dX11_stand_49 (by decide) ?_
    refine mz_kV Value.int X hH hS hl.1.1 [.int 1] [] hr (ct_X11_comeTo l g h a0 1) mb_RX11_195 rfl im_X11_comeTo rfl (Nat.le_of_ble_eq_true rfl) ⟨Nat.le_of_ble_eq_true rfl, Nat.le_of_ble_eq_true rfl⟩ hc hs dX11_stand_50 rfl (fun v7 h H locs cells slots dc ds hr hH hS hc hs => ?_)
    exact mz_iret Y dX11_stand_53 hH hS hc hs hr
def fn_X11_stand (h : mz_H) (a0 : (Option Nat)) (x1 : Int32) (x2 : Int32) (x3 : Int32) : mz_Res Int32 :=
  mz_op (mz_pF h a0 10 8 (Value.int 0)) fun h =>
  mz_op (mz_fR h a0 10 0) fun v1 =>
  mz_chk (mz_is h v1 9) <| mz_call (fn_X10_typeOf h v1 x3) fun v2 h =>
  mz_call (fn_X11_isList h x1) fun v3 h =>
  if v3 = 0 then
    mz_ret (-1) h
  else
    if v2 = none then
      if x3 = (-9) then
        fn_X11_stand_b35 h a0 x1 x2 x3 v2
      else
        mz_ret (-1) h
    else
      fn_X11_stand_b35 h a0 x1 x2 x3 v2
set_option maxHeartbeats 4000000 in
set_option maxRecDepth 100000 in
theorem pf_X11_stand_b0 (r : Int32) (Y : mz_Y p g RX11 cX11_stand 6 (some .int) "stand" (mz_AF h0) s m args meth c) (h : mz_H) (a0 : (Option Nat)) (x1 : Int32) (x2 : Int32) (x3 : Int32) (dc ds : Nat) (hr : fn_X11_stand h a0 x1 x2 x3 = some (r, hf, dc, ds)) : mz_Go l g p e s m args below meth c 2 41 DC DS h0 (some (Value.int r)) hf 6 0 [(0, false, va_rf a0), (1, false, .int x1), (2, false, .int x2), (3, false, .int x3)] [] h dc ds := by
  unfold fn_X11_stand at hr
  intro H locs cells slots ls hH hS hl hc hs
  have X := Y.1
  refine mz_aload_n X dX11_stand_0 rfl (mz_at hl 0 rfl) ?_
  refine lv_iconst (v := 0) X.1 X.2.1 dX11_stand_1 (by decide) ?_
  refine mz_put X hH hS fp_RX11_185 dX11_stand_2 rfl rfl hr (fun h H locs hr hH hS => ?_)
  refine mz_aload_n X dX11_stand_5 rfl (mz_at hl 0 rfl) ?_
  refine mz_getR X hH fl_RX11_10 dX11_stand_6 hr (fun v1 hr => ?_)
  refine lv_iload_n X.1 X.2.1 dX11_stand_9 rfl (mz_at hl 3 rfl) ?_
  refine mz_kV va_rf X hH hS hl.1.1 [.int x3] [] hr (ct_X10_typeOf l g h v1 x3) mb_RX11_48 rfl im_X10_typeOf rfl (Nat.le_of_ble_eq_true rfl) ⟨Nat.le_of_ble_eq_true rfl, Nat.le_of_ble_eq_true rfl⟩ hc hs dX11_stand_10 rfl (fun v2 h H locs cells slots dc ds hr hH hS hc hs => ?_)
  refine mz_astore X [(4, false, va_rf v2), (0, false, va_rf a0), (1, false, .int x1), (2, false, .int x2), (3, false, .int x3)] dX11_stand_13 hl (by decide) rfl (fun ls hl => ?_)
  refine lv_iload_n X.1 X.2.1 dX11_stand_15 rfl (mz_at hl 2 rfl) ?_
  refine mz_kS Value.int X hH hS hl.1.1 [.int x1] [] hr (ct_X11_isList l g h x1) mb_RX11_357 im_X11_isList rfl (Nat.le_of_ble_eq_true rfl) ⟨Nat.le_of_ble_eq_true rfl, Nat.le_of_ble_eq_true rfl⟩ hc hs dX11_stand_16 rfl (fun v3 h H locs cells slots dc ds hr hH hS hc hs => ?_)
  refine mz_if_eq X 33 dX11_stand_19 (by decide) hr (fun hr => ?_) (fun hr => ?_)
  · refine lv_iconst (v := (-1)) X.1 X.2.1 dX11_stand_33 (by decide) ?_
    exact mz_iret Y dX11_stand_34 hH hS hc hs hr
  · refine mz_aload X dX11_stand_22 (mz_at hl 0 rfl) ?_
    refine mz_ifnonnull X 35 dX11_stand_24 (by decide) hr (fun hr => ?_) (fun hr => ?_)
    · exact pf_X11_stand_b35 r Y h a0 x1 x2 x3 v2 _ _ hr H locs cells slots ls hH hS (mz_sub hl [1, 2, 3, 4, 0] rfl) hc hs
    · refine lv_iload_n X.1 X.2.1 dX11_stand_27 rfl (mz_at hl 4 rfl) ?_
      refine lv_bipush (v := (-9)) X.1 X.2.1 dX11_stand_28 (by decide) ?_
      refine mz_icmp_eq X 35 dX11_stand_30 (by decide) hr (fun hr => ?_) (fun hr => ?_)
      · exact pf_X11_stand_b35 r Y h a0 x1 x2 x3 v2 _ _ hr H locs cells slots ls hH hS (mz_sub hl [1, 2, 3, 4, 0] rfl) hc hs
      · refine lv_iconst (v := (-1)) X.1 X.2.1 dX11_stand_33 (by decide) ?_
        exact mz_iret Y dX11_stand_34 hH hS hc hs hr
set_option maxRecDepth 100000 in
theorem ct_X11_stand (l : Launch) (g : mz_G) (h : mz_H) (a0 : (Option Nat)) (x1 : Int32) (x2 : Int32) (x3 : Int32) (r : Int32) (hf : mz_H) (k n : Nat) (hr : fn_X11_stand h a0 x1 x2 x3 = some (r, hf, k, n)) : mz_C l g yX11_stand cX11_stand 6 (some .int) 2 41 [va_rf a0, .int x1, .int x2, .int x3] h (some (Value.int r)) hf k n := by
  refine mz_met (as := [(false, va_rf a0), (false, .int x1), (false, .int x2), (false, .int x3)]) (plainFor_of_name (by decide)) (mz_c1 (mz_cat_rf _) (mz_c1 rfl (mz_c1 rfl (mz_c1 rfl mz_c0)))) (Nat.le_of_ble_eq_true rfl) ?_
  intro p e s m args below meth c Y
  exact pf_X11_stand_b0 r Y h a0 x1 x2 x3 _ _ hr
end

/-! X11_board X11_trial X11_fault X11_told -/
section
variable {p : Program} {l : Launch} {e : Env} {s : State} {m : MethodId} {args : Array Value} {below : List Frame} {meth : Method} {c : Code} {g : mz_G} {h0 hf : mz_H} {DC DS : Nat}
theorem dX11_board_0 : decode cX11_board 0 = .ok (.aload_n 0, 1) := by decide +kernel
theorem dX11_board_1 : decode cX11_board 1 = .ok (.iconst 0, 1) := by decide +kernel
theorem dX11_board_2 : decode cX11_board 2 = .ok (.putfield 185, 3) := by decide +kernel
theorem dX11_board_5 : decode cX11_board 5 = .ok (.iload_n 1, 1) := by decide +kernel
theorem dX11_board_6 : decode cX11_board 6 = .ok (.invokestatic 357, 3) := by decide +kernel
theorem dX11_board_9 : decode cX11_board 9 = .ok (.ifCond .ne 5, 3) := by decide +kernel
theorem dX11_board_12 : decode cX11_board 12 = .ok (.iconst (-1), 1) := by decide +kernel
theorem dX11_board_13 : decode cX11_board 13 = .ok (.ireturn, 1) := by decide +kernel
theorem dX11_board_14 : decode cX11_board 14 = .ok (.aload_n 0, 1) := by decide +kernel
theorem dX11_board_15 : decode cX11_board 15 = .ok (.getfield 44, 3) := by decide +kernel
theorem dX11_board_18 : decode cX11_board 18 = .ok (.iload_n 1, 1) := by decide +kernel
theorem dX11_board_19 : decode cX11_board 19 = .ok (.aaload, 1) := by decide +kernel
theorem dX11_board_20 : decode cX11_board 20 = .ok (.astore_n 3, 1) := by decide +kernel
theorem dX11_board_21 : decode cX11_board 21 = .ok (.aload_n 3, 1) := by decide +kernel
theorem dX11_board_22 : decode cX11_board 22 = .ok (.ifnonnull 9, 3) := by decide +kernel
theorem dX11_board_25 : decode cX11_board 25 = .ok (.aload_n 0, 1) := by decide +kernel
theorem dX11_board_26 : decode cX11_board 26 = .ok (.iconst 1, 1) := by decide +kernel
theorem dX11_board_27 : decode cX11_board 27 = .ok (.invokevirtual 195, 3) := by decide +kernel
theorem dX11_board_30 : decode cX11_board 30 = .ok (.ireturn, 1) := by decide +kernel
theorem dX11_board_31 : decode cX11_board 31 = .ok (.aload_n 3, 1) := by decide +kernel
theorem dX11_board_32 : decode cX11_board 32 = .ok (.iload_n 2, 1) := by decide +kernel
theorem dX11_board_33 : decode cX11_board 33 = .ok (.invokevirtual 361, 3) := by decide +kernel
theorem dX11_board_36 : decode cX11_board 36 = .ok (.ifCond .eq 12, 3) := by decide +kernel
theorem dX11_board_39 : decode cX11_board 39 = .ok (.aload_n 3, 1) := by decide +kernel
theorem dX11_board_40 : decode cX11_board 40 = .ok (.getfield 368, 3) := by decide +kernel
theorem dX11_board_43 : decode cX11_board 43 = .ok (.iload_n 2, 1) := by decide +kernel
theorem dX11_board_44 : decode cX11_board 44 = .ok (.iaload, 1) := by decide +kernel
theorem dX11_board_45 : decode cX11_board 45 = .ok (.goto 8, 3) := by decide +kernel
theorem dX11_board_48 : decode cX11_board 48 = .ok (.aload_n 0, 1) := by decide +kernel
theorem dX11_board_49 : decode cX11_board 49 = .ok (.iconst 3, 1) := by decide +kernel
theorem dX11_board_50 : decode cX11_board 50 = .ok (.invokevirtual 195, 3) := by decide +kernel
theorem dX11_board_53 : decode cX11_board 53 = .ok (.ireturn, 1) := by decide +kernel
def fn_X11_board (h : mz_H) (a0 : (Option Nat)) (x1 : Int32) (x2 : Int32) : mz_Res Int32 :=
  mz_op (mz_pF h a0 10 8 (Value.int 0)) fun h =>
  mz_call (fn_X11_isList h x1) fun v1 h =>
  if v1 = 0 then
    mz_ret (-1) h
  else
    mz_op (mz_fR h a0 10 7) fun v2 =>
    mz_op (mz_aR h v2 13 x1) fun v3 =>
    if v3 = none then
      mz_chk (mz_is h a0 10) <| mz_call (fn_X11_comeTo h a0 1) fun v8 h =>
      mz_ret v8 h
    else
      mz_chk (mz_is h v3 3) <| mz_call (fn_X4_has h v3 x2) fun v4 h =>
      if v4 = 0 then
        mz_chk (mz_is h a0 10) <| mz_call (fn_X11_comeTo h a0 3) fun v5 h =>
        mz_ret v5 h
      else
        mz_op (mz_fR h v3 3 1) fun v6 =>
        mz_op (mz_aI h v6 0 x2) fun v7 =>
        mz_ret v7 h
set_option maxHeartbeats 4000000 in
set_option maxRecDepth 100000 in
theorem pf_X11_board_b0 (r : Int32) (Y : mz_Y p g RX11 cX11_board 4 (some .int) "board" (mz_AF h0) s m args meth c) (h : mz_H) (a0 : (Option Nat)) (x1 : Int32) (x2 : Int32) (dc ds : Nat) (hr : fn_X11_board h a0 x1 x2 = some (r, hf, dc, ds)) : mz_Go l g p e s m args below meth c 1 21 DC DS h0 (some (Value.int r)) hf 4 0 [(0, false, va_rf a0), (1, false, .int x1), (2, false, .int x2)] [] h dc ds := by
  unfold fn_X11_board at hr
  intro H locs cells slots ls hH hS hl hc hs
  have X := Y.1
  refine mz_aload_n X dX11_board_0 rfl (mz_at hl 0 rfl) ?_
  refine lv_iconst (v := 0) X.1 X.2.1 dX11_board_1 (by decide) ?_
  refine mz_put X hH hS fp_RX11_185 dX11_board_2 rfl rfl hr (fun h H locs hr hH hS => ?_)
  refine lv_iload_n X.1 X.2.1 dX11_board_5 rfl (mz_at hl 1 rfl) ?_
  refine mz_kS Value.int X hH hS hl.1.1 [.int x1] [] hr (ct_X11_isList l g h x1) mb_RX11_357 im_X11_isList rfl (Nat.le_of_ble_eq_true rfl) ⟨Nat.le_of_ble_eq_true rfl, Nat.le_of_ble_eq_true rfl⟩ hc hs dX11_board_6 rfl (fun v1 h H locs cells slots dc ds hr hH hS hc hs => ?_)
  refine mz_if_ne X 14 dX11_board_9 (by decide) hr (fun hr => ?_) (fun hr => ?_)
  · refine mz_aload_n X dX11_board_14 rfl (mz_at hl 0 rfl) ?_
    refine mz_getR X hH fl_RX11_44 dX11_board_15 hr (fun v2 hr => ?_)
    refine lv_iload_n X.1 X.2.1 dX11_board_18 rfl (mz_at hl 1 rfl) ?_
    refine mz_aald (t := 13) X hH (by decide) rfl dX11_board_19 hr (fun v3 hr => ?_)
    refine mz_astore_n X [(3, false, va_rf v3), (0, false, va_rf a0), (1, false, .int x1), (2, false, .int x2)] dX11_board_20 rfl hl (by decide) rfl (fun ls hl => ?_)
    refine mz_aload_n X dX11_board_21 rfl (mz_at hl 0 rfl) ?_
    refine mz_ifnonnull X 31 dX11_board_22 (by decide) hr (fun hr => ?_) (fun hr => ?_)
    · refine mz_aload_n X dX11_board_31 rfl (mz_at hl 0 rfl) ?_
      refine lv_iload_n X.1 X.2.1 dX11_board_32 rfl (mz_at hl 3 rfl) ?_
      refine mz_kV Value.int X hH hS hl.1.1 [.int x2] [] hr (ct_X4_has l g h v3 x2) mb_RX11_361 rfl im_X4_has rfl (Nat.le_of_ble_eq_true rfl) ⟨Nat.le_of_ble_eq_true rfl, Nat.le_of_ble_eq_true rfl⟩ hc hs dX11_board_33 rfl (fun v4 h H locs cells slots dc ds hr hH hS hc hs => ?_)
      refine mz_if_eq X 48 dX11_board_36 (by decide) hr (fun hr => ?_) (fun hr => ?_)
      · refine mz_aload_n X dX11_board_48 rfl (mz_at hl 1 rfl) ?_
        refine lv_iconst (v := 3) X.1 X.2.1 dX11_board_49 (by decide) ?_
        refine mz_kV Value.int X hH hS hl.1.1 [.int 3] [] hr (ct_X11_comeTo l g h a0 3) mb_RX11_195 rfl im_X11_comeTo rfl (Nat.le_of_ble_eq_true rfl) ⟨Nat.le_of_ble_eq_true rfl, Nat.le_of_ble_eq_true rfl⟩ hc hs dX11_board_50 rfl (fun v5 h H locs cells slots dc ds hr hH hS hc hs => ?_)
        exact mz_iret Y dX11_board_53 hH hS hc hs hr
      · refine mz_aload_n X dX11_board_39 rfl (mz_at hl 0 rfl) ?_
        refine mz_getR X hH fl_RX11_368 dX11_board_40 hr (fun v6 hr => ?_)
        refine lv_iload_n X.1 X.2.1 dX11_board_43 rfl (mz_at hl 3 rfl) ?_
        refine mz_iald X hH dX11_board_44 hr (fun v7 hr => ?_)
        refine lv_goto (tgt := 53) X.1 X.2.1 dX11_board_45 (by decide) ?_
        exact mz_iret Y dX11_board_53 hH hS hc hs hr
    · refine mz_aload_n X dX11_board_25 rfl (mz_at hl 1 rfl) ?_
      refine lv_iconst (v := 1) X.1 X.2.1 dX11_board_26 (by decide) ?_
      refine mz_kV Value.int X hH hS hl.1.1 [.int 1] [] hr (ct_X11_comeTo l g h a0 1) mb_RX11_195 rfl im_X11_comeTo rfl (Nat.le_of_ble_eq_true rfl) ⟨Nat.le_of_ble_eq_true rfl, Nat.le_of_ble_eq_true rfl⟩ hc hs dX11_board_27 rfl (fun v8 h H locs cells slots dc ds hr hH hS hc hs => ?_)
      exact mz_iret Y dX11_board_30 hH hS hc hs hr
  · refine lv_iconst (v := (-1)) X.1 X.2.1 dX11_board_12 (by decide) ?_
    exact mz_iret Y dX11_board_13 hH hS hc hs hr
set_option maxRecDepth 100000 in
theorem ct_X11_board (l : Launch) (g : mz_G) (h : mz_H) (a0 : (Option Nat)) (x1 : Int32) (x2 : Int32) (r : Int32) (hf : mz_H) (k n : Nat) (hr : fn_X11_board h a0 x1 x2 = some (r, hf, k, n)) : mz_C l g yX11_board cX11_board 4 (some .int) 1 21 [va_rf a0, .int x1, .int x2] h (some (Value.int r)) hf k n := by
  refine mz_met (as := [(false, va_rf a0), (false, .int x1), (false, .int x2)]) (plainFor_of_name (by decide)) (mz_c1 (mz_cat_rf _) (mz_c1 rfl (mz_c1 rfl mz_c0))) (Nat.le_of_ble_eq_true rfl) ?_
  intro p e s m args below meth c Y
  exact pf_X11_board_b0 r Y h a0 x1 x2 _ _ hr
theorem dX11_trial_0 : decode cX11_trial 0 = .ok (.aload_n 0, 1) := by decide +kernel
theorem dX11_trial_1 : decode cX11_trial 1 = .ok (.iconst 0, 1) := by decide +kernel
theorem dX11_trial_2 : decode cX11_trial 2 = .ok (.putfield 185, 3) := by decide +kernel
theorem dX11_trial_5 : decode cX11_trial 5 = .ok (.iload_n 1, 1) := by decide +kernel
theorem dX11_trial_6 : decode cX11_trial 6 = .ok (.iconst 1, 1) := by decide +kernel
theorem dX11_trial_7 : decode cX11_trial 7 = .ok (.if_icmp .lt 19, 3) := by decide +kernel
theorem dX11_trial_10 : decode cX11_trial 10 = .ok (.iload_n 1, 1) := by decide +kernel
theorem dX11_trial_11 : decode cX11_trial 11 = .ok (.bipush 7, 2) := by decide +kernel
theorem dX11_trial_13 : decode cX11_trial 13 = .ok (.if_icmp .gt 13, 3) := by decide +kernel
theorem dX11_trial_16 : decode cX11_trial 16 = .ok (.iload_n 2, 1) := by decide +kernel
theorem dX11_trial_17 : decode cX11_trial 17 = .ok (.ifCond .lt 9, 3) := by decide +kernel
theorem dX11_trial_20 : decode cX11_trial 20 = .ok (.iload_n 2, 1) := by decide +kernel
theorem dX11_trial_21 : decode cX11_trial 21 = .ok (.bipush 15, 2) := by decide +kernel
theorem dX11_trial_23 : decode cX11_trial 23 = .ok (.if_icmp .le 6, 3) := by decide +kernel
theorem dX11_trial_26 : decode cX11_trial 26 = .ok (.bipush (-2), 2) := by decide +kernel
theorem dX11_trial_28 : decode cX11_trial 28 = .ok (.ireturn, 1) := by decide +kernel
theorem dX11_trial_29 : decode cX11_trial 29 = .ok (.aload_n 0, 1) := by decide +kernel
theorem dX11_trial_30 : decode cX11_trial 30 = .ok (.iload_n 1, 1) := by decide +kernel
theorem dX11_trial_31 : decode cX11_trial 31 = .ok (.invokevirtual 195, 3) := by decide +kernel
theorem dX11_trial_34 : decode cX11_trial 34 = .ok (.ireturn, 1) := by decide +kernel
def fn_X11_trial (h : mz_H) (a0 : (Option Nat)) (x1 : Int32) (x2 : Int32) : mz_Res Int32 :=
  mz_op (mz_pF h a0 10 8 (Value.int 0)) fun h =>
  if x1 < 1 then
    mz_ret (-2) h
  else
    if 7 < x1 then
      mz_ret (-2) h
    else
      if x2 < 0 then
        mz_ret (-2) h
      else
        if x2 ≤ 15 then
          mz_chk (mz_is h a0 10) <| mz_call (fn_X11_comeTo h a0 x1) fun v1 h =>
          mz_ret v1 h
        else
          mz_ret (-2) h
set_option maxHeartbeats 4000000 in
set_option maxRecDepth 100000 in
theorem pf_X11_trial_b0 (r : Int32) (Y : mz_Y p g RX11 cX11_trial 3 (some .int) "trial" (mz_AF h0) s m args meth c) (h : mz_H) (a0 : (Option Nat)) (x1 : Int32) (x2 : Int32) (dc ds : Nat) (hr : fn_X11_trial h a0 x1 x2 = some (r, hf, dc, ds)) : mz_Go l g p e s m args below meth c 1 21 DC DS h0 (some (Value.int r)) hf 3 0 [(0, false, va_rf a0), (1, false, .int x1), (2, false, .int x2)] [] h dc ds := by
  unfold fn_X11_trial at hr
  intro H locs cells slots ls hH hS hl hc hs
  have X := Y.1
  refine mz_aload_n X dX11_trial_0 rfl (mz_at hl 0 rfl) ?_
  refine lv_iconst (v := 0) X.1 X.2.1 dX11_trial_1 (by decide) ?_
  refine mz_put X hH hS fp_RX11_185 dX11_trial_2 rfl rfl hr (fun h H locs hr hH hS => ?_)
  refine lv_iload_n X.1 X.2.1 dX11_trial_5 rfl (mz_at hl 1 rfl) ?_
  refine lv_iconst (v := 1) X.1 X.2.1 dX11_trial_6 (by decide) ?_
  refine mz_icmp_lt X 26 dX11_trial_7 (by decide) hr (fun hr => ?_) (fun hr => ?_)
  · refine lv_bipush (v := (-2)) X.1 X.2.1 dX11_trial_26 (by decide) ?_
    exact mz_iret Y dX11_trial_28 hH hS hc hs hr
  · refine lv_iload_n X.1 X.2.1 dX11_trial_10 rfl (mz_at hl 1 rfl) ?_
    refine lv_bipush (v := 7) X.1 X.2.1 dX11_trial_11 (by decide) ?_
    refine mz_icmp_gt X 26 dX11_trial_13 (by decide) hr (fun hr => ?_) (fun hr => ?_)
    · refine lv_bipush (v := (-2)) X.1 X.2.1 dX11_trial_26 (by decide) ?_
      exact mz_iret Y dX11_trial_28 hH hS hc hs hr
    · refine lv_iload_n X.1 X.2.1 dX11_trial_16 rfl (mz_at hl 2 rfl) ?_
      refine mz_if_lt X 26 dX11_trial_17 (by decide) hr (fun hr => ?_) (fun hr => ?_)
      · refine lv_bipush (v := (-2)) X.1 X.2.1 dX11_trial_26 (by decide) ?_
        exact mz_iret Y dX11_trial_28 hH hS hc hs hr
      · refine lv_iload_n X.1 X.2.1 dX11_trial_20 rfl (mz_at hl 2 rfl) ?_
        refine lv_bipush (v := 15) X.1 X.2.1 dX11_trial_21 (by decide) ?_
        refine mz_icmp_le X 29 dX11_trial_23 (by decide) hr (fun hr => ?_) (fun hr => ?_)
        · refine mz_aload_n X dX11_trial_29 rfl (mz_at hl 0 rfl) ?_
          refine lv_iload_n X.1 X.2.1 dX11_trial_30 rfl (mz_at hl 1 rfl) ?_
          refine mz_kV Value.int X hH hS hl.1.1 [.int x1] [] hr (ct_X11_comeTo l g h a0 x1) mb_RX11_195 rfl im_X11_comeTo rfl (Nat.le_of_ble_eq_true rfl) ⟨Nat.le_of_ble_eq_true rfl, Nat.le_of_ble_eq_true rfl⟩ hc hs dX11_trial_31 rfl (fun v1 h H locs cells slots dc ds hr hH hS hc hs => ?_)
          exact mz_iret Y dX11_trial_34 hH hS hc hs hr
        · refine lv_bipush (v := (-2)) X.1 X.2.1 dX11_trial_26 (by decide) ?_
          exact mz_iret Y dX11_trial_28 hH hS hc hs hr
set_option maxRecDepth 100000 in
theorem ct_X11_trial (l : Launch) (g : mz_G) (h : mz_H) (a0 : (Option Nat)) (x1 : Int32) (x2 : Int32) (r : Int32) (hf : mz_H) (k n : Nat) (hr : fn_X11_trial h a0 x1 x2 = some (r, hf, k, n)) : mz_C l g yX11_trial cX11_trial 3 (some .int) 1 21 [va_rf a0, .int x1, .int x2] h (some (Value.int r)) hf k n := by
  refine mz_met (as := [(false, va_rf a0), (false, .int x1), (false, .int x2)]) (plainFor_of_name (by decide)) (mz_c1 (mz_cat_rf _) (mz_c1 rfl (mz_c1 rfl mz_c0))) (Nat.le_of_ble_eq_true rfl) ?_
  intro p e s m args below meth c Y
  exact pf_X11_trial_b0 r Y h a0 x1 x2 _ _ hr
theorem dX11_fault_0 : decode cX11_fault 0 = .ok (.aload_n 0, 1) := by decide +kernel
theorem dX11_fault_1 : decode cX11_fault 1 = .ok (.getfield 185, 3) := by decide +kernel
theorem dX11_fault_4 : decode cX11_fault 4 = .ok (.ireturn, 1) := by decide +kernel
def fn_X11_fault (h : mz_H) (a0 : (Option Nat)) : mz_Res Int32 :=
  mz_op (mz_fI h a0 10 8) fun v1 =>
  mz_ret v1 h
set_option maxHeartbeats 4000000 in
set_option maxRecDepth 100000 in
theorem pf_X11_fault_b0 (r : Int32) (Y : mz_Y p g RX11 cX11_fault 1 (some .int) "fault" (mz_AF h0) s m args meth c) (h : mz_H) (a0 : (Option Nat)) (dc ds : Nat) (hr : fn_X11_fault h a0 = some (r, hf, dc, ds)) : mz_Go l g p e s m args below meth c 0 0 DC DS h0 (some (Value.int r)) hf 1 0 [(0, false, va_rf a0)] [] h dc ds := by
  unfold fn_X11_fault at hr
  intro H locs cells slots ls hH hS hl hc hs
  have X := Y.1
  refine mz_aload_n X dX11_fault_0 rfl (mz_at hl 0 rfl) ?_
  refine mz_getI X hH fl_RX11_185 dX11_fault_1 hr (fun v1 hr => ?_)
  exact mz_iret Y dX11_fault_4 hH hS hc hs hr
set_option maxRecDepth 100000 in
theorem ct_X11_fault (l : Launch) (g : mz_G) (h : mz_H) (a0 : (Option Nat)) (r : Int32) (hf : mz_H) (k n : Nat) (hr : fn_X11_fault h a0 = some (r, hf, k, n)) : mz_C l g yX11_fault cX11_fault 1 (some .int) 0 0 [va_rf a0] h (some (Value.int r)) hf k n := by
  refine mz_met (as := [(false, va_rf a0)]) (plainFor_of_name (by decide)) (mz_c1 (mz_cat_rf _) mz_c0) (Nat.le_of_ble_eq_true rfl) ?_
  intro p e s m args below meth c Y
  exact pf_X11_fault_b0 r Y h a0 _ _ hr
theorem dX11_told_0 : decode cX11_told 0 = .ok (.iload_n 1, 1) := by decide +kernel
theorem dX11_told_1 : decode cX11_told 1 = .ok (.tableswitch 81 0 5 #[39, 47, 52, 60, 68, 73], 39) := by decide +kernel
theorem dX11_told_40 : decode cX11_told 40 = .ok (.aload_n 0, 1) := by decide +kernel
theorem dX11_told_41 : decode cX11_told 41 = .ok (.getfield 10, 3) := by decide +kernel
theorem dX11_told_44 : decode cX11_told 44 = .ok (.getfield 62, 3) := by decide +kernel
theorem dX11_told_47 : decode cX11_told 47 = .ok (.ireturn, 1) := by decide +kernel
theorem dX11_told_48 : decode cX11_told 48 = .ok (.aload_n 0, 1) := by decide +kernel
theorem dX11_told_49 : decode cX11_told 49 = .ok (.getfield 198, 3) := by decide +kernel
theorem dX11_told_52 : decode cX11_told 52 = .ok (.ireturn, 1) := by decide +kernel
theorem dX11_told_53 : decode cX11_told 53 = .ok (.aload_n 0, 1) := by decide +kernel
theorem dX11_told_54 : decode cX11_told 54 = .ok (.getfield 19, 3) := by decide +kernel
theorem dX11_told_57 : decode cX11_told 57 = .ok (.getfield 148, 3) := by decide +kernel
theorem dX11_told_60 : decode cX11_told 60 = .ok (.ireturn, 1) := by decide +kernel
theorem dX11_told_61 : decode cX11_told 61 = .ok (.aload_n 0, 1) := by decide +kernel
theorem dX11_told_62 : decode cX11_told 62 = .ok (.getfield 10, 3) := by decide +kernel
theorem dX11_told_65 : decode cX11_told 65 = .ok (.invokevirtual 370, 3) := by decide +kernel
theorem dX11_told_68 : decode cX11_told 68 = .ok (.ireturn, 1) := by decide +kernel
theorem dX11_told_69 : decode cX11_told 69 = .ok (.aload_n 0, 1) := by decide +kernel
theorem dX11_told_70 : decode cX11_told 70 = .ok (.getfield 373, 3) := by decide +kernel
theorem dX11_told_73 : decode cX11_told 73 = .ok (.ireturn, 1) := by decide +kernel
theorem dX11_told_74 : decode cX11_told 74 = .ok (.aload_n 0, 1) := by decide +kernel
theorem dX11_told_75 : decode cX11_told 75 = .ok (.getfield 35, 3) := by decide +kernel
theorem dX11_told_78 : decode cX11_told 78 = .ok (.getfield 340, 3) := by decide +kernel
theorem dX11_told_81 : decode cX11_told 81 = .ok (.ireturn, 1) := by decide +kernel
theorem dX11_told_82 : decode cX11_told 82 = .ok (.bipush (-2), 2) := by decide +kernel
theorem dX11_told_84 : decode cX11_told 84 = .ok (.ireturn, 1) := by decide +kernel
def fn_X11_told (h : mz_H) (a0 : (Option Nat)) (x1 : Int32) : mz_Res Int32 :=
  if x1 = 0 then
    mz_op (mz_fR h a0 10 0) fun v1 =>
    mz_op (mz_fI h v1 9 1) fun v2 =>
    mz_ret v2 h
  else
  if x1 = 1 then
    mz_op (mz_fI h a0 10 4) fun v3 =>
    mz_ret v3 h
  else
  if x1 = 2 then
    mz_op (mz_fR h a0 10 1) fun v4 =>
    mz_op (mz_fI h v4 6 2) fun v5 =>
    mz_ret v5 h
  else
  if x1 = 3 then
    mz_op (mz_fR h a0 10 0) fun v6 =>
    mz_chk (mz_is h v6 9) <| mz_call (fn_X10_startedCount h v6) fun v7 h =>
    mz_ret v7 h
  else
  if x1 = 4 then
    mz_op (mz_fI h a0 10 9) fun v8 =>
    mz_ret v8 h
  else
  if x1 = 5 then
    mz_op (mz_fR h a0 10 5) fun v9 =>
    mz_op (mz_fI h v9 0 1) fun v10 =>
    mz_ret v10 h
  else
  mz_ret (-2) h
set_option maxHeartbeats 4000000 in
set_option maxRecDepth 100000 in
theorem pf_X11_told_b0 (r : Int32) (Y : mz_Y p g RX11 cX11_told 2 (some .int) "told" (mz_AF h0) s m args meth c) (h : mz_H) (a0 : (Option Nat)) (x1 : Int32) (dc ds : Nat) (hr : fn_X11_told h a0 x1 = some (r, hf, dc, ds)) : mz_Go l g p e s m args below meth c 1 22 DC DS h0 (some (Value.int r)) hf 2 0 [(0, false, va_rf a0), (1, false, .int x1)] [] h dc ds := by
  unfold fn_X11_told at hr
  intro H locs cells slots ls hH hS hl hc hs
  have X := Y.1
  refine lv_iload_n X.1 X.2.1 dX11_told_0 rfl (mz_at hl 1 rfl) ?_
  by_cases q0 : x1 = 0
  · rw [if_pos q0] at hr
    refine mz_tin X dX11_told_1 q0 40 (by decide) (by decide) rfl (by decide) ?_
    refine mz_aload_n X dX11_told_40 rfl (mz_at hl 0 rfl) ?_
    refine mz_getR X hH fl_RX11_10 dX11_told_41 hr (fun v1 hr => ?_)
    refine mz_getI X hH fl_RX11_62 dX11_told_44 hr (fun v2 hr => ?_)
    exact mz_iret Y dX11_told_47 hH hS hc hs hr
  rw [if_neg q0] at hr
  by_cases q1 : x1 = 1
  · rw [if_pos q1] at hr
    refine mz_tin X dX11_told_1 q1 48 (by decide) (by decide) rfl (by decide) ?_
    refine mz_aload_n X dX11_told_48 rfl (mz_at hl 0 rfl) ?_
    refine mz_getI X hH fl_RX11_198 dX11_told_49 hr (fun v3 hr => ?_)
    exact mz_iret Y dX11_told_52 hH hS hc hs hr
  rw [if_neg q1] at hr
  by_cases q2 : x1 = 2
  · rw [if_pos q2] at hr
    refine mz_tin X dX11_told_1 q2 53 (by decide) (by decide) rfl (by decide) ?_
    refine mz_aload_n X dX11_told_53 rfl (mz_at hl 0 rfl) ?_
    refine mz_getR X hH fl_RX11_19 dX11_told_54 hr (fun v4 hr => ?_)
    refine mz_getI X hH fl_RX11_148 dX11_told_57 hr (fun v5 hr => ?_)
    exact mz_iret Y dX11_told_60 hH hS hc hs hr
  rw [if_neg q2] at hr
  by_cases q3 : x1 = 3
  · rw [if_pos q3] at hr
    refine mz_tin X dX11_told_1 q3 61 (by decide) (by decide) rfl (by decide) ?_
    refine mz_aload_n X dX11_told_61 rfl (mz_at hl 0 rfl) ?_
    refine mz_getR X hH fl_RX11_10 dX11_told_62 hr (fun v6 hr => ?_)
    refine mz_kV Value.int X hH hS hl.1.1 [] [] hr (ct_X10_startedCount l g h v6) mb_RX11_370 rfl im_X10_startedCount rfl (Nat.le_of_ble_eq_true rfl) ⟨Nat.le_of_ble_eq_true rfl, Nat.le_of_ble_eq_true rfl⟩ hc hs dX11_told_65 rfl (fun v7 h H locs cells slots dc ds hr hH hS hc hs => ?_)
    exact mz_iret Y dX11_told_68 hH hS hc hs hr
  rw [if_neg q3] at hr
  by_cases q4 : x1 = 4
  · rw [if_pos q4] at hr
    refine mz_tin X dX11_told_1 q4 69 (by decide) (by decide) rfl (by decide) ?_
    refine mz_aload_n X dX11_told_69 rfl (mz_at hl 0 rfl) ?_
    refine mz_getI X hH fl_RX11_373 dX11_told_70 hr (fun v8 hr => ?_)
    exact mz_iret Y dX11_told_73 hH hS hc hs hr
  rw [if_neg q4] at hr
  by_cases q5 : x1 = 5
  · rw [if_pos q5] at hr
    refine mz_tin X dX11_told_1 q5 74 (by decide) (by decide) rfl (by decide) ?_
    refine mz_aload_n X dX11_told_74 rfl (mz_at hl 0 rfl) ?_
    refine mz_getR X hH fl_RX11_35 dX11_told_75 hr (fun v9 hr => ?_)
    refine mz_getI X hH fl_RX11_340 dX11_told_78 hr (fun v10 hr => ?_)
    exact mz_iret Y dX11_told_81 hH hS hc hs hr
  rw [if_neg q5] at hr
  have kd : W p l e ({ frames := 1, cells := DC, slots := DS, locals := 22 }) s m args below meth c H locs cells slots (MQ below (mz_Q g h0 (some (Value.int r)) hf) args s DC DS (mz_AF h0)) (F0 m 82 ls []) := by
    refine lv_bipush (v := (-2)) X.1 X.2.1 dX11_told_82 (by decide) ?_
    exact mz_iret Y dX11_told_84 hH hS hc hs hr
  have t0 : ¬ (x1 : Int32).toInt = 0 := fun z => q0 (mz_ti 0 (by decide) z)
  have t1 : ¬ (x1 : Int32).toInt = 1 := fun z => q1 (mz_ti 1 (by decide) z)
  have t2 : ¬ (x1 : Int32).toInt = 2 := fun z => q2 (mz_ti 2 (by decide) z)
  have t3 : ¬ (x1 : Int32).toInt = 3 := fun z => q3 (mz_ti 3 (by decide) z)
  have t4 : ¬ (x1 : Int32).toInt = 4 := fun z => q4 (mz_ti 4 (by decide) z)
  have t5 : ¬ (x1 : Int32).toInt = 5 := fun z => q5 (mz_ti 5 (by decide) z)
  exact mz_tout X dX11_told_1 82 (by omega) (by decide) kd
set_option maxRecDepth 100000 in
theorem ct_X11_told (l : Launch) (g : mz_G) (h : mz_H) (a0 : (Option Nat)) (x1 : Int32) (r : Int32) (hf : mz_H) (k n : Nat) (hr : fn_X11_told h a0 x1 = some (r, hf, k, n)) : mz_C l g yX11_told cX11_told 2 (some .int) 1 22 [va_rf a0, .int x1] h (some (Value.int r)) hf k n := by
  refine mz_met (as := [(false, va_rf a0), (false, .int x1)]) (plainFor_of_name (by decide)) (mz_c1 (mz_cat_rf _) (mz_c1 rfl mz_c0)) (Nat.le_of_ble_eq_true rfl) ?_
  intro p e s m args below meth c Y
  exact pf_X11_told_b0 r Y h a0 x1 _ _ hr
end

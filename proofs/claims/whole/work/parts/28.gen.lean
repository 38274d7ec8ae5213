/-! X12_board X12_trial X12_fault X12_told -/
section
variable {p : Program} {l : Launch} {e : Env} {s : State} {m : MethodId} {args : Array Value} {below : List Frame} {meth : Method} {c : Code} {g : mz_G} {h0 hf : mz_H} {DC DS : Nat}
theorem dX12_board_0 : decode cX12_board 0 = .ok (.aload_n 0, 1) := by decide +kernel
theorem dX12_board_1 : decode cX12_board 1 = .ok (.iconst 0, 1) := by decide +kernel
theorem dX12_board_2 : decode cX12_board 2 = .ok (.putfield 125, 3) := by decide +kernel
theorem dX12_board_5 : decode cX12_board 5 = .ok (.iload_n 1, 1) := by decide +kernel
theorem dX12_board_6 : decode cX12_board 6 = .ok (.iconst 0, 1) := by decide +kernel
theorem dX12_board_7 : decode cX12_board 7 = .ok (.iconst 3, 1) := by decide +kernel
theorem dX12_board_8 : decode cX12_board 8 = .ok (.invokestatic 142, 3) := by decide +kernel
theorem dX12_board_11 : decode cX12_board 11 = .ok (.ifCond .ne 5, 3) := by decide +kernel
theorem dX12_board_14 : decode cX12_board 14 = .ok (.iconst (-1), 1) := by decide +kernel
theorem dX12_board_15 : decode cX12_board 15 = .ok (.ireturn, 1) := by decide +kernel
theorem dX12_board_16 : decode cX12_board 16 = .ok (.aload_n 0, 1) := by decide +kernel
theorem dX12_board_17 : decode cX12_board 17 = .ok (.getfield 116, 3) := by decide +kernel
theorem dX12_board_20 : decode cX12_board 20 = .ok (.iload_n 1, 1) := by decide +kernel
theorem dX12_board_21 : decode cX12_board 21 = .ok (.iaload, 1) := by decide +kernel
theorem dX12_board_22 : decode cX12_board 22 = .ok (.ifCond .ge 9, 3) := by decide +kernel
theorem dX12_board_25 : decode cX12_board 25 = .ok (.aload_n 0, 1) := by decide +kernel
theorem dX12_board_26 : decode cX12_board 26 = .ok (.iconst 1, 1) := by decide +kernel
theorem dX12_board_27 : decode cX12_board 27 = .ok (.invokevirtual 131, 3) := by decide +kernel
theorem dX12_board_30 : decode cX12_board 30 = .ok (.ireturn, 1) := by decide +kernel
theorem dX12_board_31 : decode cX12_board 31 = .ok (.iload_n 2, 1) := by decide +kernel
theorem dX12_board_32 : decode cX12_board 32 = .ok (.ifCond .lt 13, 3) := by decide +kernel
theorem dX12_board_35 : decode cX12_board 35 = .ok (.iload_n 2, 1) := by decide +kernel
theorem dX12_board_36 : decode cX12_board 36 = .ok (.aload_n 0, 1) := by decide +kernel
theorem dX12_board_37 : decode cX12_board 37 = .ok (.getfield 116, 3) := by decide +kernel
theorem dX12_board_40 : decode cX12_board 40 = .ok (.iload_n 1, 1) := by decide +kernel
theorem dX12_board_41 : decode cX12_board 41 = .ok (.iaload, 1) := by decide +kernel
theorem dX12_board_42 : decode cX12_board 42 = .ok (.if_icmp .lt 11, 3) := by decide +kernel
theorem dX12_board_45 : decode cX12_board 45 = .ok (.aload_n 0, 1) := by decide +kernel
theorem dX12_board_46 : decode cX12_board 46 = .ok (.iconst 3, 1) := by decide +kernel
theorem dX12_board_47 : decode cX12_board 47 = .ok (.invokevirtual 131, 3) := by decide +kernel
theorem dX12_board_50 : decode cX12_board 50 = .ok (.goto 14, 3) := by decide +kernel
theorem dX12_board_53 : decode cX12_board 53 = .ok (.aload_n 0, 1) := by decide +kernel
theorem dX12_board_54 : decode cX12_board 54 = .ok (.getfield 122, 3) := by decide +kernel
theorem dX12_board_57 : decode cX12_board 57 = .ok (.bipush 8, 2) := by decide +kernel
theorem dX12_board_59 : decode cX12_board 59 = .ok (.iload_n 1, 1) := by decide +kernel
theorem dX12_board_60 : decode cX12_board 60 = .ok (.imul, 1) := by decide +kernel
theorem dX12_board_61 : decode cX12_board 61 = .ok (.iload_n 2, 1) := by decide +kernel
theorem dX12_board_62 : decode cX12_board 62 = .ok (.iadd, 1) := by decide +kernel
theorem dX12_board_63 : decode cX12_board 63 = .ok (.iaload, 1) := by decide +kernel
theorem dX12_board_64 : decode cX12_board 64 = .ok (.ireturn, 1) := by decide +kernel
def fn_X12_board_b45 (h : mz_H) (a0 : (Option Nat)) : mz_Res Int32 :=
  mz_chk (mz_is h a0 11) <| mz_call (fn_X12_fails h a0 3) fun v1 h =>
  mz_ret v1 h
set_option maxHeartbeats 4000000 in
set_option maxRecDepth 100000 in
theorem pf_X12_board_b45 (r : Int32) (Y : mz_Y p g RX12 cX12_board 3 (some .int) "board" (mz_AF h0) s m args meth c) (h : mz_H) (a0 : (Option Nat)) (dc ds : Nat) (hr : fn_X12_board_b45 h a0 = some (r, hf, dc, ds)) : mz_Go l g p e s m args below meth c 1 22 DC DS h0 (some (Value.int r)) hf 3 45 [(0, false, va_rf a0)] [] h dc ds := by
  unfold fn_X12_board_b45 at hr
  intro H locs cells slots ls hH hS hl hc hs
  have X := Y.1
  refine mz_aload_n X dX12_board_45 rfl (mz_at hl 0 rfl) ?_
  refine lv_iconst (v := 3) X.1 X.2.1 dX12_board_46 (by decide) ?_
  refine mz_kV Value.int X hH hS hl.1.1 [.int 3] [] hr (ct_X12_fails l g h a0 3) mb_RX12_131 rfl im_X12_fails rfl (Nat.le_of_ble_eq_true rfl) ⟨Nat.le_of_ble_eq_true rfl, Nat.le_of_ble_eq_true rfl⟩ hc hs dX12_board_47 rfl (fun v1 h H locs cells slots dc ds hr hH hS hc hs => ?_)
  refine lv_goto (tgt := 64) X.1 X.2.1 dX12_board_50 (by decide) ?_
  exact mz_iret Y dX12_board_64 hH hS hc hs hr
def fn_X12_board (h : mz_H) (a0 : (Option Nat)) (x1 : Int32) (x2 : Int32) : mz_Res Int32 :=
  mz_op (mz_pF h a0 11 0 (Value.int 0)) fun h =>
  mz_call (fn_X12_within h x1 0 3) fun v1 h =>
  if v1 = 0 then
    mz_ret (-1) h
  else
    mz_op (mz_fR h a0 11 49) fun v2 =>
    mz_op (mz_aI h v2 0 x1) fun v3 =>
    if 0 ≤ v3 then
      if x2 < 0 then
        fn_X12_board_b45 h a0
      else
        mz_op (mz_fR h a0 11 49) fun v4 =>
        mz_op (mz_aI h v4 0 x1) fun v5 =>
        if x2 < v5 then
          mz_op (mz_fR h a0 11 51) fun v6 =>
          mz_op (mz_aI h v6 0 ((8 * x1) + x2)) fun v7 =>
          mz_ret v7 h
        else
          fn_X12_board_b45 h a0
    else
      mz_chk (mz_is h a0 11) <| mz_call (fn_X12_fails h a0 1) fun v8 h =>
      mz_ret v8 h
set_option maxHeartbeats 4000000 in
set_option maxRecDepth 100000 in
theorem pf_X12_board_b0 (r : Int32) (Y : mz_Y p g RX12 cX12_board 3 (some .int) "board" (mz_AF h0) s m args meth c) (h : mz_H) (a0 : (Option Nat)) (x1 : Int32) (x2 : Int32) (dc ds : Nat) (hr : fn_X12_board h a0 x1 x2 = some (r, hf, dc, ds)) : mz_Go l g p e s m args below meth c 1 22 DC DS h0 (some (Value.int r)) hf 3 0 [(0, false, va_rf a0), (1, false, .int x1), (2, false, .int x2)] [] h dc ds := by
  unfold fn_X12_board at hr
  intro H locs cells slots ls hH hS hl hc hs
  have X := Y.1
  refine mz_aload_n X dX12_board_0 rfl (mz_at hl 0 rfl) ?_
  refine lv_iconst (v := 0) X.1 X.2.1 dX12_board_1 (by decide) ?_
  refine mz_put X hH hS fp_RX12_125 dX12_board_2 rfl rfl hr (fun h H locs hr hH hS => ?_)
  refine lv_iload_n X.1 X.2.1 dX12_board_5 rfl (mz_at hl 1 rfl) ?_
  refine lv_iconst (v := 0) X.1 X.2.1 dX12_board_6 (by decide) ?_
  refine lv_iconst (v := 3) X.1 X.2.1 dX12_board_7 (by decide) ?_
  refine mz_kS Value.int X hH hS hl.1.1 [.int x1, .int 0, .int 3] [] hr (ct_X12_within l g h x1 0 3) mb_RX12_142 im_X12_within rfl (Nat.le_of_ble_eq_true rfl) ⟨Nat.le_of_ble_eq_true rfl, Nat.le_of_ble_eq_true rfl⟩ hc hs dX12_board_8 rfl (fun v1 h H locs cells slots dc ds hr hH hS hc hs => ?_)
  refine mz_if_ne X 16 dX12_board_11 (by decide) hr (fun hr => ?_) (fun hr => ?_)
  · refine mz_aload_n X dX12_board_16 rfl (mz_at hl 0 rfl) ?_
    refine mz_getR X hH fl_RX12_116 dX12_board_17 hr (fun v2 hr => ?_)
    refine lv_iload_n X.1 X.2.1 dX12_board_20 rfl (mz_at hl 1 rfl) ?_
    refine mz_iald X hH dX12_board_21 hr (fun v3 hr => ?_)
    refine mz_if_ge X 31 dX12_board_22 (by decide) hr (fun hr => ?_) (fun hr => ?_)
    · refine lv_iload_n X.1 X.2.1 dX12_board_31 rfl (mz_at hl 2 rfl) ?_
      refine mz_if_lt X 45 dX12_board_32 (by decide) hr (fun hr => ?_) (fun hr => ?_)
      · exact pf_X12_board_b45 r Y h a0 _ _ hr H locs cells slots ls hH hS (mz_sub hl [0] rfl) hc hs
      · refine lv_iload_n X.1 X.2.1 dX12_board_35 rfl (mz_at hl 2 rfl) ?_
        refine mz_aload_n X dX12_board_36 rfl (mz_at hl 0 rfl) ?_
        refine mz_getR X hH fl_RX12_116 dX12_board_37 hr (fun v4 hr => ?_)
        refine lv_iload_n X.1 X.2.1 dX12_board_40 rfl (mz_at hl 1 rfl) ?_
        refine mz_iald X hH dX12_board_41 hr (fun v5 hr => ?_)
        refine mz_icmp_lt X 53 dX12_board_42 (by decide) hr (fun hr => ?_) (fun hr => ?_)
        · refine mz_aload_n X dX12_board_53 rfl (mz_at hl 0 rfl) ?_
          refine mz_getR X hH fl_RX12_122 dX12_board_54 hr (fun v6 hr => ?_)
          refine lv_bipush (v := 8) X.1 X.2.1 dX12_board_57 (by decide) ?_
          refine lv_iload_n X.1 X.2.1 dX12_board_59 rfl (mz_at hl 1 rfl) ?_
          refine lv_imul X.1 X.2.1 dX12_board_60 ?_
          refine lv_iload_n X.1 X.2.1 dX12_board_61 rfl (mz_at hl 2 rfl) ?_
          refine lv_iadd X.1 X.2.1 dX12_board_62 ?_
          refine mz_iald X hH dX12_board_63 hr (fun v7 hr => ?_)
          exact mz_iret Y dX12_board_64 hH hS hc hs hr
        · exact pf_X12_board_b45 r Y h a0 _ _ hr H locs cells slots ls hH hS (mz_sub hl [0] rfl) hc hs
    · refine mz_aload_n X dX12_board_25 rfl (mz_at hl 0 rfl) ?_
      refine lv_iconst (v := 1) X.1 X.2.1 dX12_board_26 (by decide) ?_
      refine mz_kV Value.int X hH hS hl.1.1 [.int 1] [] hr (ct_X12_fails l g h a0 1) mb_RX12_131 rfl im_X12_fails rfl (Nat.le_of_ble_eq_true rfl) ⟨Nat.le_of_ble_eq_true rfl, Nat.le_of_ble_eq_true rfl⟩ hc hs dX12_board_27 rfl (fun v8 h H locs cells slots dc ds hr hH hS hc hs => ?_)
      exact mz_iret Y dX12_board_30 hH hS hc hs hr
  · refine lv_iconst (v := (-1)) X.1 X.2.1 dX12_board_14 (by decide) ?_
    exact mz_iret Y dX12_board_15 hH hS hc hs hr
set_option maxRecDepth 100000 in
theorem ct_X12_board (l : Launch) (g : mz_G) (h : mz_H) (a0 : (Option Nat)) (x1 : Int32) (x2 : Int32) (r : Int32) (hf : mz_H) (k n : Nat) (hr : fn_X12_board h a0 x1 x2 = some (r, hf, k, n)) : mz_C l g yX12_board cX12_board 3 (some .int) 1 22 [va_rf a0, .int x1, .int x2] h (some (Value.int r)) hf k n := by
  refine mz_met (as := [(false, va_rf a0), (false, .int x1), (false, .int x2)]) (plainFor_of_name (by decide)) (mz_c1 (mz_cat_rf _) (mz_c1 rfl (mz_c1 rfl mz_c0))) (Nat.le_of_ble_eq_true rfl) ?_
  intro p e s m args below meth c Y
  exact pf_X12_board_b0 r Y h a0 x1 x2 _ _ hr
theorem dX12_trial_0 : decode cX12_trial 0 = .ok (.aload_n 0, 1) := by decide +kernel
theorem dX12_trial_1 : decode cX12_trial 1 = .ok (.iconst 0, 1) := by decide +kernel
theorem dX12_trial_2 : decode cX12_trial 2 = .ok (.putfield 125, 3) := by decide +kernel
theorem dX12_trial_5 : decode cX12_trial 5 = .ok (.iload_n 1, 1) := by decide +kernel
theorem dX12_trial_6 : decode cX12_trial 6 = .ok (.iconst 1, 1) := by decide +kernel
theorem dX12_trial_7 : decode cX12_trial 7 = .ok (.bipush 7, 2) := by decide +kernel
theorem dX12_trial_9 : decode cX12_trial 9 = .ok (.invokestatic 142, 3) := by decide +kernel
theorem dX12_trial_12 : decode cX12_trial 12 = .ok (.ifCond .eq 13, 3) := by decide +kernel
theorem dX12_trial_15 : decode cX12_trial 15 = .ok (.iload_n 2, 1) := by decide +kernel
theorem dX12_trial_16 : decode cX12_trial 16 = .ok (.iconst 0, 1) := by decide +kernel
theorem dX12_trial_17 : decode cX12_trial 17 = .ok (.bipush 15, 2) := by decide +kernel
theorem dX12_trial_19 : decode cX12_trial 19 = .ok (.invokestatic 142, 3) := by decide +kernel
theorem dX12_trial_22 : decode cX12_trial 22 = .ok (.ifCond .ne 6, 3) := by decide +kernel
theorem dX12_trial_25 : decode cX12_trial 25 = .ok (.bipush (-2), 2) := by decide +kernel
theorem dX12_trial_27 : decode cX12_trial 27 = .ok (.ireturn, 1) := by decide +kernel
theorem dX12_trial_28 : decode cX12_trial 28 = .ok (.aload_n 0, 1) := by decide +kernel
theorem dX12_trial_29 : decode cX12_trial 29 = .ok (.iload_n 1, 1) := by decide +kernel
theorem dX12_trial_30 : decode cX12_trial 30 = .ok (.invokevirtual 131, 3) := by decide +kernel
theorem dX12_trial_33 : decode cX12_trial 33 = .ok (.ireturn, 1) := by decide +kernel
def fn_X12_trial (h : mz_H) (a0 : (Option Nat)) (x1 : Int32) (x2 : Int32) : mz_Res Int32 :=
  mz_op (mz_pF h a0 11 0 (Value.int 0)) fun h =>
  mz_call (fn_X12_within h x1 1 7) fun v1 h =>
  if v1 = 0 then
    mz_ret (-2) h
  else
    mz_call (fn_X12_within h x2 0 15) fun v2 h =>
    if v2 = 0 then
      mz_ret (-2) h
    else
      mz_chk (mz_is h a0 11) <| mz_call (fn_X12_fails h a0 x1) fun v3 h =>
      mz_ret v3 h
set_option maxHeartbeats 4000000 in
set_option maxRecDepth 100000 in
theorem pf_X12_trial_b0 (r : Int32) (Y : mz_Y p g RX12 cX12_trial 3 (some .int) "trial" (mz_AF h0) s m args meth c) (h : mz_H) (a0 : (Option Nat)) (x1 : Int32) (x2 : Int32) (dc ds : Nat) (hr : fn_X12_trial h a0 x1 x2 = some (r, hf, dc, ds)) : mz_Go l g p e s m args below meth c 1 22 DC DS h0 (some (Value.int r)) hf 3 0 [(0, false, va_rf a0), (1, false, .int x1), (2, false, .int x2)] [] h dc ds := by
  unfold fn_X12_trial at hr
  intro H locs cells slots ls hH hS hl hc hs
  have X := Y.1
  refine mz_aload_n X dX12_trial_0 rfl (mz_at hl 0 rfl) ?_
  refine lv_iconst (v := 0) X.1 X.2.1 dX12_trial_1 (by decide) ?_
  refine mz_put X hH hS fp_RX12_125 dX12_trial_2 rfl rfl hr (fun h H locs hr hH hS => ?_)
  refine lv_iload_n X.1 X.2.1 dX12_trial_5 rfl (mz_at hl 1 rfl) ?_
  refine lv_iconst (v := 1) X.1 X.2.1 dX12_trial_6 (by decide) ?_
  refine lv_bipush (v := 7) X.1 X.2.1 dX12_trial_7 (by decide) ?_
  refine mz_kS Value.int X hH hS hl.1.1 [.int x1, .int 1, .int 7] [] hr (ct_X12_within l g h x1 1 7) mb_RX12_142 im_X12_within rfl (Nat.le_of_ble_eq_true rfl) ⟨Nat.le_of_ble_eq_true rfl, Nat.le_of_ble_eq_true rfl⟩ hc hs dX12_trial_9 rfl (fun v1 h H locs cells slots dc ds hr hH hS hc hs => ?_)
  refine mz_if_eq X 25 dX12_trial_12 (by decide) hr (fun hr => ?_) (fun hr => ?_)
  · refine lv_bipush (v := (-2)) X.1 X.2.1 dX12_trial_25 (by decide) ?_
    exact mz_iret Y dX12_trial_27 hH hS hc hs hr
  · refine lv_iload_n X.1 X.2.1 dX12_trial_15 rfl (mz_at hl 2 rfl) ?_
    refine lv_iconst (v := 0) X.1 X.2.1 dX12_trial_16 (by decide) ?_
    refine lv_bipush (v := 15) X.1 X.2.1 dX12_trial_17 (by decide) ?_
    refine mz_kS Value.int X hH hS hl.1.1 [.int x2, .int 0, .int 15] [] hr (ct_X12_within l g h x2 0 15) mb_RX12_142 im_X12_within rfl (Nat.le_of_ble_eq_true rfl) ⟨Nat.le_of_ble_eq_true rfl, Nat.le_of_ble_eq_true rfl⟩ hc hs dX12_trial_19 rfl (fun v2 h H locs cells slots dc ds hr hH hS hc hs => ?_)
    refine mz_if_ne X 28 dX12_trial_22 (by decide) hr (fun hr => ?_) (fun hr => ?_)
    · refine mz_aload_n X dX12_trial_28 rfl (mz_at hl 0 rfl) ?_
      refine lv_iload_n X.1 X.2.1 dX12_trial_29 rfl (mz_at hl 1 rfl) ?_
      refine mz_kV Value.int X hH hS hl.1.1 [.int x1] [] hr (ct_X12_fails l g h a0 x1) mb_RX12_131 rfl im_X12_fails rfl (Nat.le_of_ble_eq_true rfl) ⟨Nat.le_of_ble_eq_true rfl, Nat.le_of_ble_eq_true rfl⟩ hc hs dX12_trial_30 rfl (fun v3 h H locs cells slots dc ds hr hH hS hc hs => ?_)
      exact mz_iret Y dX12_trial_33 hH hS hc hs hr
    · refine lv_bipush (v := (-2)) X.1 X.2.1 dX12_trial_25 (by decide) ?_
      exact mz_iret Y dX12_trial_27 hH hS hc hs hr
set_option maxRecDepth 100000 in
theorem ct_X12_trial (l : Launch) (g : mz_G) (h : mz_H) (a0 : (Option Nat)) (x1 : Int32) (x2 : Int32) (r : Int32) (hf : mz_H) (k n : Nat) (hr : fn_X12_trial h a0 x1 x2 = some (r, hf, k, n)) : mz_C l g yX12_trial cX12_trial 3 (some .int) 1 22 [va_rf a0, .int x1, .int x2] h (some (Value.int r)) hf k n := by
  refine mz_met (as := [(false, va_rf a0), (false, .int x1), (false, .int x2)]) (plainFor_of_name (by decide)) (mz_c1 (mz_cat_rf _) (mz_c1 rfl (mz_c1 rfl mz_c0))) (Nat.le_of_ble_eq_true rfl) ?_
  intro p e s m args below meth c Y
  exact pf_X12_trial_b0 r Y h a0 x1 x2 _ _ hr
theorem dX12_fault_0 : decode cX12_fault 0 = .ok (.aload_n 0, 1) := by decide +kernel
theorem dX12_fault_1 : decode cX12_fault 1 = .ok (.getfield 125, 3) := by decide +kernel
theorem dX12_fault_4 : decode cX12_fault 4 = .ok (.ireturn, 1) := by decide +kernel
def fn_X12_fault (h : mz_H) (a0 : (Option Nat)) : mz_Res Int32 :=
  mz_op (mz_fI h a0 11 0) fun v1 =>
  mz_ret v1 h
set_option maxHeartbeats 4000000 in
set_option maxRecDepth 100000 in
theorem pf_X12_fault_b0 (r : Int32) (Y : mz_Y p g RX12 cX12_fault 1 (some .int) "fault" (mz_AF h0) s m args meth c) (h : mz_H) (a0 : (Option Nat)) (dc ds : Nat) (hr : fn_X12_fault h a0 = some (r, hf, dc, ds)) : mz_Go l g p e s m args below meth c 0 0 DC DS h0 (some (Value.int r)) hf 1 0 [(0, false, va_rf a0)] [] h dc ds := by
  unfold fn_X12_fault at hr
  intro H locs cells slots ls hH hS hl hc hs
  have X := Y.1
  refine mz_aload_n X dX12_fault_0 rfl (mz_at hl 0 rfl) ?_
  refine mz_getI X hH fl_RX12_125 dX12_fault_1 hr (fun v1 hr => ?_)
  exact mz_iret Y dX12_fault_4 hH hS hc hs hr
set_option maxRecDepth 100000 in
theorem ct_X12_fault (l : Launch) (g : mz_G) (h : mz_H) (a0 : (Option Nat)) (r : Int32) (hf : mz_H) (k n : Nat) (hr : fn_X12_fault h a0 = some (r, hf, k, n)) : mz_C l g yX12_fault cX12_fault 1 (some .int) 0 0 [va_rf a0] h (some (Value.int r)) hf k n := by
  refine mz_met (as := [(false, va_rf a0)]) (plainFor_of_name (by decide)) (mz_c1 (mz_cat_rf _) mz_c0) (Nat.le_of_ble_eq_true rfl) ?_
  intro p e s m args below meth c Y
  exact pf_X12_fault_b0 r Y h a0 _ _ hr
theorem dX12_told_0 : decode cX12_told 0 = .ok (.iconst 0, 1) := by decide +kernel
theorem dX12_told_1 : decode cX12_told 1 = .ok (.istore_n 2, 1) := by decide +kernel
theorem dX12_told_2 : decode cX12_told 2 = .ok (.iconst 0, 1) := by decide +kernel
theorem dX12_told_3 : decode cX12_told 3 = .ok (.istore_n 3, 1) := by decide +kernel
theorem dX12_told_4 : decode cX12_told 4 = .ok (.iload_n 3, 1) := by decide +kernel
theorem dX12_told_5 : decode cX12_told 5 = .ok (.aload_n 0, 1) := by decide +kernel
theorem dX12_told_6 : decode cX12_told 6 = .ok (.getfield 135, 3) := by decide +kernel
theorem dX12_told_9 : decode cX12_told 9 = .ok (.if_icmp .ge 26, 3) := by decide +kernel
theorem dX12_told_12 : decode cX12_told 12 = .ok (.iload_n 2, 1) := by decide +kernel
theorem dX12_told_13 : decode cX12_told 13 = .ok (.aload_n 0, 1) := by decide +kernel
theorem dX12_told_14 : decode cX12_told 14 = .ok (.getfield 44, 3) := by decide +kernel
theorem dX12_told_17 : decode cX12_told 17 = .ok (.iload_n 3, 1) := by decide +kernel
theorem dX12_told_18 : decode cX12_told 18 = .ok (.baload, 1) := by decide +kernel
theorem dX12_told_19 : decode cX12_told 19 = .ok (.ifCond .eq 7, 3) := by decide +kernel
theorem dX12_told_22 : decode cX12_told 22 = .ok (.iconst 1, 1) := by decide +kernel
theorem dX12_told_23 : decode cX12_told 23 = .ok (.goto 4, 3) := by decide +kernel
theorem dX12_told_26 : decode cX12_told 26 = .ok (.iconst 0, 1) := by decide +kernel
theorem dX12_told_27 : decode cX12_told 27 = .ok (.iadd, 1) := by decide +kernel
theorem dX12_told_28 : decode cX12_told 28 = .ok (.istore_n 2, 1) := by decide +kernel
theorem dX12_told_29 : decode cX12_told 29 = .ok (.iinc 3 1, 3) := by decide +kernel
theorem dX12_told_32 : decode cX12_told 32 = .ok (.goto (-28), 3) := by decide +kernel
theorem dX12_told_35 : decode cX12_told 35 = .ok (.iload_n 1, 1) := by decide +kernel
theorem dX12_told_36 : decode cX12_told 36 = .ok (.tableswitch 67 0 5 #[40, 45, 50, 55, 57, 62], 40) := by decide +kernel
theorem dX12_told_76 : decode cX12_told 76 = .ok (.aload_n 0, 1) := by decide +kernel
theorem dX12_told_77 : decode cX12_told 77 = .ok (.getfield 135, 3) := by decide +kernel
theorem dX12_told_80 : decode cX12_told 80 = .ok (.ireturn, 1) := by decide +kernel
theorem dX12_told_81 : decode cX12_told 81 = .ok (.aload_n 0, 1) := by decide +kernel
theorem dX12_told_82 : decode cX12_told 82 = .ok (.getfield 211, 3) := by decide +kernel
theorem dX12_told_85 : decode cX12_told 85 = .ok (.ireturn, 1) := by decide +kernel
theorem dX12_told_86 : decode cX12_told 86 = .ok (.aload_n 0, 1) := by decide +kernel
theorem dX12_told_87 : decode cX12_told 87 = .ok (.getfield 205, 3) := by decide +kernel
theorem dX12_told_90 : decode cX12_told 90 = .ok (.ireturn, 1) := by decide +kernel
theorem dX12_told_91 : decode cX12_told 91 = .ok (.iload_n 2, 1) := by decide +kernel
theorem dX12_told_92 : decode cX12_told 92 = .ok (.ireturn, 1) := by decide +kernel
theorem dX12_told_93 : decode cX12_told 93 = .ok (.aload_n 0, 1) := by decide +kernel
theorem dX12_told_94 : decode cX12_told 94 = .ok (.getfield 128, 3) := by decide +kernel
theorem dX12_told_97 : decode cX12_told 97 = .ok (.ireturn, 1) := by decide +kernel
theorem dX12_told_98 : decode cX12_told 98 = .ok (.aload_n 0, 1) := by decide +kernel
theorem dX12_told_99 : decode cX12_told 99 = .ok (.getfield 286, 3) := by decide +kernel
theorem dX12_told_102 : decode cX12_told 102 = .ok (.ireturn, 1) := by decide +kernel
theorem dX12_told_103 : decode cX12_told 103 = .ok (.bipush (-2), 2) := by decide +kernel
theorem dX12_told_105 : decode cX12_told 105 = .ok (.ireturn, 1) := by decide +kernel
def fn_X12_told_b27 (rc4 : mz_H → (Option Nat) → Int32 → Int32 → Int32 → mz_Res Int32) (h : mz_H) (a0 : (Option Nat)) (x1 : Int32) (x3 : Int32) (s0 : Int32) (s1 : Int32) : mz_Res Int32 :=
  mz_op (some (s0 + s1)) fun v1 =>
  mz_op (some (x3 + 1)) fun v2 =>
  rc4 h a0 x1 v1 v2
set_option maxHeartbeats 4000000 in
set_option maxRecDepth 100000 in
theorem pf_X12_told_b27 (r : Int32) (Y : mz_Y p g RX12 cX12_told 4 (some .int) "told" (mz_AF h0) s m args meth c) {rc4 : mz_H → (Option Nat) → Int32 → Int32 → Int32 → mz_Res Int32} (hrc4 : ∀ (h : mz_H) (a0 : (Option Nat)) (x1 : Int32) (x2 : Int32) (x3 : Int32) (dc ds : Nat), rc4 h a0 x1 x2 x3 = some (r, hf, dc, ds) → mz_Go l g p e s m args below meth c 0 0 DC DS h0 (some (Value.int r)) hf 4 4 [(0, false, va_rf a0), (1, false, .int x1), (2, false, .int x2), (3, false, .int x3)] [] h dc ds) (h : mz_H) (a0 : (Option Nat)) (x1 : Int32) (x3 : Int32) (s0 : Int32) (s1 : Int32) (dc ds : Nat) (hr : fn_X12_told_b27 rc4 h a0 x1 x3 s0 s1 = some (r, hf, dc, ds)) : mz_Go l g p e s m args below meth c 0 0 DC DS h0 (some (Value.int r)) hf 4 27 [(0, false, va_rf a0), (1, false, .int x1), (3, false, .int x3)] [.int s1, .int s0] h dc ds := by
  unfold fn_X12_told_b27 at hr
  intro H locs cells slots ls hH hS hl hc hs
  have X := Y.1
  refine lv_iadd X.1 X.2.1 dX12_told_27 ?_
  refine mz_topi hr (fun v1 hv1 hr => ?_)
  refine mz_istore_n X [(2, false, .int v1), (0, false, va_rf a0), (1, false, .int x1), (3, false, .int x3)] dX12_told_28 rfl hl (by decide) rfl (fun ls hl => ?_)
  obtain ⟨v2, hv2, hr⟩ := mz_op_some hr
  have hv2 := Option.some.inj hv2
  refine mz_iinc (k := 3) X [(3, false, .int v2), (2, false, .int v1), (0, false, va_rf a0), (1, false, .int x1)] v2 dX12_told_29 hl rfl hv2 (by decide) rfl (fun ls hl => ?_)
  refine lv_goto (tgt := 4) X.1 X.2.1 dX12_told_32 (by decide) ?_
  exact hrc4 h a0 x1 v1 v2 _ _ hr H locs cells slots ls hH hS (mz_sub hl [2, 3, 1, 0] rfl) hc hs
def fn_X12_told_b4 : Nat → mz_H → (Option Nat) → Int32 → Int32 → Int32 → mz_Res Int32
  | 0, _, _, _, _, _ => none
  | n + 1, h, a0, x1, x2, x3 =>
    mz_op (mz_fI h a0 11 2) fun v1 =>
    if v1 ≤ x3 then
      if x1 = 0 then
        mz_op (mz_fI h a0 11 2) fun v2 =>
        mz_ret v2 h
      else
      if x1 = 1 then
        mz_op (mz_fI h a0 11 32) fun v3 =>
        mz_ret v3 h
      else
      if x1 = 2 then
        mz_op (mz_fI h a0 11 30) fun v4 =>
        mz_ret v4 h
      else
      if x1 = 3 then
        mz_ret x2 h
      else
      if x1 = 4 then
        mz_op (mz_fI h a0 11 1) fun v5 =>
        mz_ret v5 h
      else
      if x1 = 5 then
        mz_op (mz_fI h a0 11 46) fun v6 =>
        mz_ret v6 h
      else
      mz_ret (-2) h
    else
      mz_op (mz_fR h a0 11 14) fun v7 =>
      mz_op (mz_aI h v7 2 x3) fun v8 =>
      if v8 = 0 then
        fn_X12_told_b27 (fn_X12_told_b4 n) h a0 x1 x3 x2 0
      else
        fn_X12_told_b27 (fn_X12_told_b4 n) h a0 x1 x3 x2 1
set_option maxHeartbeats 4000000 in
set_option maxRecDepth 100000 in
theorem pf_X12_told_b4 (r : Int32) (Y : mz_Y p g RX12 cX12_told 4 (some .int) "told" (mz_AF h0) s m args meth c) : ∀ (n : Nat) (h : mz_H) (a0 : (Option Nat)) (x1 : Int32) (x2 : Int32) (x3 : Int32) (dc ds : Nat), fn_X12_told_b4 n h a0 x1 x2 x3 = some (r, hf, dc, ds) → mz_Go l g p e s m args below meth c 0 0 DC DS h0 (some (Value.int r)) hf 4 4 [(0, false, va_rf a0), (1, false, .int x1), (2, false, .int x2), (3, false, .int x3)] [] h dc ds := by
  have X := Y.1
  intro n
  induction n with
  | zero => intro h a0 x1 x2 x3 dc ds hr; simp [fn_X12_told_b4] at hr
  | succ n ih =>
    intro h a0 x1 x2 x3 dc ds hr
    rw [fn_X12_told_b4] at hr
    intro H locs cells slots ls hH hS hl hc hs
    refine lv_iload_n X.1 X.2.1 dX12_told_4 rfl (mz_at hl 3 rfl) ?_
    refine mz_aload_n X dX12_told_5 rfl (mz_at hl 0 rfl) ?_
    refine mz_getI X hH fl_RX12_135 dX12_told_6 hr (fun v1 hr => ?_)
    refine mz_icmp_ge X 35 dX12_told_9 (by decide) hr (fun hr => ?_) (fun hr => ?_)
    · refine lv_iload_n X.1 X.2.1 dX12_told_35 rfl (mz_at hl 1 rfl) ?_
      by_cases q0 : x1 = 0
      · rw [if_pos q0] at hr
        refine mz_tin X dX12_told_36 q0 76 (by decide) (by decide) rfl (by decide) ?_
        refine mz_aload_n X dX12_told_76 rfl (mz_at hl 0 rfl) ?_
        refine mz_getI X hH fl_RX12_135 dX12_told_77 hr (fun v2 hr => ?_)
        exact mz_iret Y dX12_told_80 hH hS hc hs hr
      rw [if_neg q0] at hr
      by_cases q1 : x1 = 1
      · rw [if_pos q1] at hr
        refine mz_tin X dX12_told_36 q1 81 (by decide) (by decide) rfl (by decide) ?_
        refine mz_aload_n X dX12_told_81 rfl (mz_at hl 0 rfl) ?_
        refine mz_getI X hH fl_RX12_211 dX12_told_82 hr (fun v3 hr => ?_)
        exact mz_iret Y dX12_told_85 hH hS hc hs hr
      rw [if_neg q1] at hr
      by_cases q2 : x1 = 2
      · rw [if_pos q2] at hr
        refine mz_tin X dX12_told_36 q2 86 (by decide) (by decide) rfl (by decide) ?_
        refine mz_aload_n X dX12_told_86 rfl (mz_at hl 0 rfl) ?_
        refine mz_getI X hH fl_RX12_205 dX12_told_87 hr (fun v4 hr => ?_)
        exact mz_iret Y dX12_told_90 hH hS hc hs hr
      rw [if_neg q2] at hr
      by_cases q3 : x1 = 3
      · rw [if_pos q3] at hr
        refine mz_tin X dX12_told_36 q3 91 (by decide) (by decide) rfl (by decide) ?_
        refine lv_iload_n X.1 X.2.1 dX12_told_91 rfl (mz_at hl 2 rfl) ?_
        exact mz_iret Y dX12_told_92 hH hS hc hs hr
      rw [if_neg q3] at hr
      by_cases q4 : x1 = 4
      · rw [if_pos q4] at hr
        refine mz_tin X dX12_told_36 q4 93 (by decide) (by decide) rfl (by decide) ?_
        refine mz_aload_n X dX12_told_93 rfl (mz_at hl 0 rfl) ?_
        refine mz_getI X hH fl_RX12_128 dX12_told_94 hr (fun v5 hr => ?_)
        exact mz_iret Y dX12_told_97 hH hS hc hs hr
      rw [if_neg q4] at hr
      by_cases q5 : x1 = 5
      · rw [if_pos q5] at hr
        refine mz_tin X dX12_told_36 q5 98 (by decide) (by decide) rfl (by decide) ?_
        refine mz_aload_n X dX12_told_98 rfl (mz_at hl 0 rfl) ?_
        refine mz_getI X hH fl_RX12_286 dX12_told_99 hr (fun v6 hr => ?_)
        exact mz_iret Y dX12_told_102 hH hS hc hs hr
      rw [if_neg q5] at hr
      have kd : W p l e ({ frames := 0, cells := DC, slots := DS, locals := 0 }) s m args below meth c H locs cells slots (MQ below (mz_Q g h0 (some (Value.int r)) hf) args s DC DS (mz_AF h0)) (F0 m 103 ls []) := by
        refine lv_bipush (v := (-2)) X.1 X.2.1 dX12_told_103 (by decide) ?_
        exact mz_iret Y dX12_told_105 hH hS hc hs hr
      have t0 : ¬ (x1 : Int32).toInt = 0 := fun z => q0 (mz_ti 0 (by decide) z)
      have t1 : ¬ (x1 : Int32).toInt = 1 := fun z => q1 (mz_ti 1 (by decide) z)
      have t2 : ¬ (x1 : Int32).toInt = 2 := fun z => q2 (mz_ti 2 (by decide) z)
      have t3 : ¬ (x1 : Int32).toInt = 3 := fun z => q3 (mz_ti 3 (by decide) z)
      have t4 : ¬ (x1 : Int32).toInt = 4 := fun z => q4 (mz_ti 4 (by decide) z)
      have t5 : ¬ (x1 : Int32).toInt = 5 := fun z => q5 (mz_ti 5 (by decide) z)
      exact mz_tout X dX12_told_36 103 (by omega) (by decide) kd
    · refine lv_iload_n X.1 X.2.1 dX12_told_12 rfl (mz_at hl 2 rfl) ?_
      refine mz_aload_n X dX12_told_13 rfl (mz_at hl 0 rfl) ?_
      refine mz_getR X hH fl_RX12_44 dX12_told_14 hr (fun v7 hr => ?_)
      refine lv_iload_n X.1 X.2.1 dX12_told_17 rfl (mz_at hl 3 rfl) ?_
      refine mz_zald X hH dX12_told_18 hr (fun v8 hr => ?_)
      refine mz_if_eq X 26 dX12_told_19 (by decide) hr (fun hr => ?_) (fun hr => ?_)
      · refine lv_iconst (v := 0) X.1 X.2.1 dX12_told_26 (by decide) ?_
        exact pf_X12_told_b27 r Y ih h a0 x1 x3 x2 0 _ _ hr H locs cells slots ls hH hS (mz_sub hl [0, 1, 3] rfl) hc hs
      · refine lv_iconst (v := 1) X.1 X.2.1 dX12_told_22 (by decide) ?_
        refine lv_goto (tgt := 27) X.1 X.2.1 dX12_told_23 (by decide) ?_
        exact pf_X12_told_b27 r Y ih h a0 x1 x3 x2 1 _ _ hr H locs cells slots ls hH hS (mz_sub hl [0, 1, 3] rfl) hc hs
def fn_X12_told (h : mz_H) (a0 : (Option Nat)) (x1 : Int32) : mz_Res Int32 :=
  fn_X12_told_b4 1001 h a0 x1 0 0
set_option maxHeartbeats 4000000 in
set_option maxRecDepth 100000 in
theorem pf_X12_told_b0 (r : Int32) (Y : mz_Y p g RX12 cX12_told 4 (some .int) "told" (mz_AF h0) s m args meth c) (h : mz_H) (a0 : (Option Nat)) (x1 : Int32) (dc ds : Nat) (hr : fn_X12_told h a0 x1 = some (r, hf, dc, ds)) : mz_Go l g p e s m args below meth c 0 0 DC DS h0 (some (Value.int r)) hf 4 0 [(0, false, va_rf a0), (1, false, .int x1)] [] h dc ds := by
  unfold fn_X12_told at hr
  intro H locs cells slots ls hH hS hl hc hs
  have X := Y.1
  refine lv_iconst (v := 0) X.1 X.2.1 dX12_told_0 (by decide) ?_
  refine mz_istore_n X [(2, false, .int 0), (0, false, va_rf a0), (1, false, .int x1)] dX12_told_1 rfl hl (by decide) rfl (fun ls hl => ?_)
  refine lv_iconst (v := 0) X.1 X.2.1 dX12_told_2 (by decide) ?_
  refine mz_istore_n X [(3, false, .int 0), (2, false, .int 0), (0, false, va_rf a0), (1, false, .int x1)] dX12_told_3 rfl hl (by decide) rfl (fun ls hl => ?_)
  exact pf_X12_told_b4 r Y 1001 h a0 x1 0 0 _ _ hr H locs cells slots ls hH hS (mz_sub hl [2, 3, 1, 0] rfl) hc hs
set_option maxRecDepth 100000 in
theorem ct_X12_told (l : Launch) (g : mz_G) (h : mz_H) (a0 : (Option Nat)) (x1 : Int32) (r : Int32) (hf : mz_H) (k n : Nat) (hr : fn_X12_told h a0 x1 = some (r, hf, k, n)) : mz_C l g yX12_told cX12_told 4 (some .int) 0 0 [va_rf a0, .int x1] h (some (Value.int r)) hf k n := by
  refine mz_met (as := [(false, va_rf a0), (false, .int x1)]) (plainFor_of_name (by decide)) (mz_c1 (mz_cat_rf _) (mz_c1 rfl mz_c0)) (Nat.le_of_ble_eq_true rfl) ?_
  intro p e s m args below meth c Y
  exact pf_X12_told_b0 r Y h a0 x1 _ _ hr
end

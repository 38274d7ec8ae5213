/-! X12_drop X12_size X12_placeOf X12_get X12_isNumber X12_isFinite X12_ofFloat X12_comes X12_set X12_link X12_as X12_isWidened -/
section
variable {p : Program} {l : Launch} {e : Env} {s : State} {m : MethodId} {args : Array Value} {below : List Frame} {meth : Method} {c : Code} {g : mz_G} {h0 hf : mz_H} {DC DS : Nat}
theorem dX12_drop_0 : decode cX12_drop 0 = .ok (.aload_n 0, 1) := by decide +kernel
theorem dX12_drop_1 : decode cX12_drop 1 = .ok (.iload_n 1, 1) := by decide +kernel
theorem dX12_drop_2 : decode cX12_drop 2 = .ok (.iload_n 2, 1) := by decide +kernel
theorem dX12_drop_3 : decode cX12_drop 3 = .ok (.invokevirtual 226, 3) := by decide +kernel
theorem dX12_drop_6 : decode cX12_drop 6 = .ok (.ifCond .ne 5, 3) := by decide +kernel
theorem dX12_drop_9 : decode cX12_drop 9 = .ok (.iconst (-1), 1) := by decide +kernel
theorem dX12_drop_10 : decode cX12_drop 10 = .ok (.ireturn, 1) := by decide +kernel
theorem dX12_drop_11 : decode cX12_drop 11 = .ok (.bipush 16, 2) := by decide +kernel
theorem dX12_drop_13 : decode cX12_drop 13 = .ok (.iload_n 1, 1) := by decide +kernel
theorem dX12_drop_14 : decode cX12_drop 14 = .ok (.imul, 1) := by decide +kernel
theorem dX12_drop_15 : decode cX12_drop 15 = .ok (.iload_n 2, 1) := by decide +kernel
theorem dX12_drop_16 : decode cX12_drop 16 = .ok (.iadd, 1) := by decide +kernel
theorem dX12_drop_17 : decode cX12_drop 17 = .ok (.istore_n 3, 1) := by decide +kernel
theorem dX12_drop_18 : decode cX12_drop 18 = .ok (.aload_n 0, 1) := by decide +kernel
theorem dX12_drop_19 : decode cX12_drop 19 = .ok (.getfield 87, 3) := by decide +kernel
theorem dX12_drop_22 : decode cX12_drop 22 = .ok (.iload_n 3, 1) := by decide +kernel
theorem dX12_drop_23 : decode cX12_drop 23 = .ok (.iaload, 1) := by decide +kernel
theorem dX12_drop_24 : decode cX12_drop 24 = .ok (.ifCond .ne 6, 3) := by decide +kernel
theorem dX12_drop_27 : decode cX12_drop 27 = .ok (.bipush (-3), 2) := by decide +kernel
theorem dX12_drop_29 : decode cX12_drop 29 = .ok (.ireturn, 1) := by decide +kernel
theorem dX12_drop_30 : decode cX12_drop 30 = .ok (.aload_n 0, 1) := by decide +kernel
theorem dX12_drop_31 : decode cX12_drop 31 = .ok (.getfield 93, 3) := by decide +kernel
theorem dX12_drop_34 : decode cX12_drop 34 = .ok (.iload_n 3, 1) := by decide +kernel
theorem dX12_drop_35 : decode cX12_drop 35 = .ok (.baload, 1) := by decide +kernel
theorem dX12_drop_36 : decode cX12_drop 36 = .ok (.istore 4, 2) := by decide +kernel
theorem dX12_drop_38 : decode cX12_drop 38 = .ok (.aload_n 0, 1) := by decide +kernel
theorem dX12_drop_39 : decode cX12_drop 39 = .ok (.getfield 93, 3) := by decide +kernel
theorem dX12_drop_42 : decode cX12_drop 42 = .ok (.iload_n 3, 1) := by decide +kernel
theorem dX12_drop_43 : decode cX12_drop 43 = .ok (.iconst 0, 1) := by decide +kernel
theorem dX12_drop_44 : decode cX12_drop 44 = .ok (.bastore, 1) := by decide +kernel
theorem dX12_drop_45 : decode cX12_drop 45 = .ok (.iload 4, 2) := by decide +kernel
theorem dX12_drop_47 : decode cX12_drop 47 = .ok (.ifCond .eq 7, 3) := by decide +kernel
theorem dX12_drop_50 : decode cX12_drop 50 = .ok (.iconst 1, 1) := by decide +kernel
theorem dX12_drop_51 : decode cX12_drop 51 = .ok (.goto 4, 3) := by decide +kernel
theorem dX12_drop_54 : decode cX12_drop 54 = .ok (.iconst 0, 1) := by decide +kernel
theorem dX12_drop_55 : decode cX12_drop 55 = .ok (.ireturn, 1) := by decide +kernel
def fn_X12_drop (h : mz_H) (a0 : (Option Nat)) (x1 : Int32) (x2 : Int32) : mz_Res Int32 :=
  mz_chk (mz_is h a0 11) <| mz_call (fn_X12_isSlot h a0 x1 x2) fun v1 h =>
  if v1 = 0 then
    mz_ret (-1) h
  else
    mz_op (some ((16 * x1) + x2)) fun v2 =>
    mz_op (mz_fR h a0 11 37) fun v3 =>
    mz_op (mz_aI h v3 0 v2) fun v4 =>
    if v4 = 0 then
      mz_ret (-3) h
    else
      mz_op (mz_fR h a0 11 39) fun v5 =>
      mz_op (mz_aI h v5 2 v2) fun v6 =>
      mz_op (mz_fR h a0 11 39) fun v7 =>
      mz_op (mz_sI h v7 2 v2 (0 &&& 1)) fun h =>
      if v6 = 0 then
        mz_ret 0 h
      else
        mz_ret 1 h
set_option maxHeartbeats 4000000 in
set_option maxRecDepth 100000 in
theorem pf_X12_drop_b0 (r : Int32) (Y : mz_Y p g RX12 cX12_drop 5 (some .int) "drop" (mz_AF h0) s m args meth c) (h : mz_H) (a0 : (Option Nat)) (x1 : Int32) (x2 : Int32) (dc ds : Nat) (hr : fn_X12_drop h a0 x1 x2 = some (r, hf, dc, ds)) : mz_Go l g p e s m args below meth c 2 43 DC DS h0 (some (Value.int r)) hf 5 0 [(0, false, va_rf a0), (1, false, .int x1), (2, false, .int x2)] [] h dc ds := by
  unfold fn_X12_drop at hr
  intro H locs cells slots ls hH hS hl hc hs
  have X := Y.1
  refine mz_aload_n X dX12_drop_0 rfl (mz_at hl 0 rfl) ?_
  refine lv_iload_n X.1 X.2.1 dX12_drop_1 rfl (mz_at hl 1 rfl) ?_
  refine lv_iload_n X.1 X.2.1 dX12_drop_2 rfl (mz_at hl 2 rfl) ?_
  refine mz_kV Value.int X hH hS hl.1.1 [.int x1, .int x2] [] hr (ct_X12_isSlot l g h a0 x1 x2) mb_RX12_226 rfl im_X12_isSlot rfl (Nat.le_of_ble_eq_true rfl) ⟨Nat.le_of_ble_eq_true rfl, Nat.le_of_ble_eq_true rfl⟩ hc hs dX12_drop_3 rfl (fun v1 h H locs cells slots dc ds hr hH hS hc hs => ?_)
  refine mz_if_ne X 11 dX12_drop_6 (by decide) hr (fun hr => ?_) (fun hr => ?_)
  · refine lv_bipush (v := 16) X.1 X.2.1 dX12_drop_11 (by decide) ?_
    refine lv_iload_n X.1 X.2.1 dX12_drop_13 rfl (mz_at hl 1 rfl) ?_
    refine lv_imul X.1 X.2.1 dX12_drop_14 ?_
    refine lv_iload_n X.1 X.2.1 dX12_drop_15 rfl (mz_at hl 2 rfl) ?_
    refine lv_iadd X.1 X.2.1 dX12_drop_16 ?_
    refine mz_topi hr (fun v2 hv2 hr => ?_)
    refine mz_istore_n X [(3, false, .int v2), (0, false, va_rf a0), (1, false, .int x1), (2, false, .int x2)] dX12_drop_17 rfl hl (by decide) rfl (fun ls hl => ?_)
    refine mz_aload_n X dX12_drop_18 rfl (mz_at hl 1 rfl) ?_
    refine mz_getR X hH fl_RX12_87 dX12_drop_19 hr (fun v3 hr => ?_)
    refine lv_iload_n X.1 X.2.1 dX12_drop_22 rfl (mz_at hl 0 rfl) ?_
    refine mz_iald X hH dX12_drop_23 hr (fun v4 hr => ?_)
    refine mz_if_ne X 30 dX12_drop_24 (by decide) hr (fun hr => ?_) (fun hr => ?_)
    · refine mz_aload_n X dX12_drop_30 rfl (mz_at hl 1 rfl) ?_
      refine mz_getR X hH fl_RX12_93 dX12_drop_31 hr (fun v5 hr => ?_)
      refine lv_iload_n X.1 X.2.1 dX12_drop_34 rfl (mz_at hl 0 rfl) ?_
      refine mz_zald X hH dX12_drop_35 hr (fun v6 hr => ?_)
      refine mz_istore X [(4, false, .int v6), (3, false, .int v2), (0, false, va_rf a0), (1, false, .int x1), (2, false, .int x2)] dX12_drop_36 hl (by decide) rfl (fun ls hl => ?_)
      refine mz_aload_n X dX12_drop_38 rfl (mz_at hl 2 rfl) ?_
      refine mz_getR X hH fl_RX12_93 dX12_drop_39 hr (fun v7 hr => ?_)
      refine lv_iload_n X.1 X.2.1 dX12_drop_42 rfl (mz_at hl 1 rfl) ?_
      refine lv_iconst (v := 0) X.1 X.2.1 dX12_drop_43 (by decide) ?_
      refine mz_zast X hH hS dX12_drop_44 hr (fun h H locs hr hH hS => ?_)
      refine lv_iload X.1 X.2.1 dX12_drop_45 (mz_at hl 0 rfl) ?_
      refine mz_if_eq X 54 dX12_drop_47 (by decide) hr (fun hr => ?_) (fun hr => ?_)
      · refine lv_iconst (v := 0) X.1 X.2.1 dX12_drop_54 (by decide) ?_
        exact mz_iret Y dX12_drop_55 hH hS hc hs hr
      · refine lv_iconst (v := 1) X.1 X.2.1 dX12_drop_50 (by decide) ?_
        refine lv_goto (tgt := 55) X.1 X.2.1 dX12_drop_51 (by decide) ?_
        exact mz_iret Y dX12_drop_55 hH hS hc hs hr
    · refine lv_bipush (v := (-3)) X.1 X.2.1 dX12_drop_27 (by decide) ?_
      exact mz_iret Y dX12_drop_29 hH hS hc hs hr
  · refine lv_iconst (v := (-1)) X.1 X.2.1 dX12_drop_9 (by decide) ?_
    exact mz_iret Y dX12_drop_10 hH hS hc hs hr
set_option maxRecDepth 100000 in
theorem ct_X12_drop (l : Launch) (g : mz_G) (h : mz_H) (a0 : (Option Nat)) (x1 : Int32) (x2 : Int32) (r : Int32) (hf : mz_H) (k n : Nat) (hr : fn_X12_drop h a0 x1 x2 = some (r, hf, k, n)) : mz_C l g yX12_drop cX12_drop 5 (some .int) 2 43 [va_rf a0, .int x1, .int x2] h (some (Value.int r)) hf k n := by
  refine mz_met (as := [(false, va_rf a0), (false, .int x1), (false, .int x2)]) (plainFor_of_name (by decide)) (mz_c1 (mz_cat_rf _) (mz_c1 rfl (mz_c1 rfl mz_c0))) (Nat.le_of_ble_eq_true rfl) ?_
  intro p e s m args below meth c Y
  exact pf_X12_drop_b0 r Y h a0 x1 x2 _ _ hr
theorem dX12_size_0 : decode cX12_size 0 = .ok (.aload_n 0, 1) := by decide +kernel
theorem dX12_size_1 : decode cX12_size 1 = .ok (.iconst 0, 1) := by decide +kernel
theorem dX12_size_2 : decode cX12_size 2 = .ok (.putfield 125, 3) := by decide +kernel
theorem dX12_size_5 : decode cX12_size 5 = .ok (.aload_n 0, 1) := by decide +kernel
theorem dX12_size_6 : decode cX12_size 6 = .ok (.iload_n 1, 1) := by decide +kernel
theorem dX12_size_7 : decode cX12_size 7 = .ok (.iload_n 2, 1) := by decide +kernel
theorem dX12_size_8 : decode cX12_size 8 = .ok (.invokevirtual 226, 3) := by decide +kernel
theorem dX12_size_11 : decode cX12_size 11 = .ok (.ifCond .ne 5, 3) := by decide +kernel
theorem dX12_size_14 : decode cX12_size 14 = .ok (.iconst (-1), 1) := by decide +kernel
theorem dX12_size_15 : decode cX12_size 15 = .ok (.ireturn, 1) := by decide +kernel
theorem dX12_size_16 : decode cX12_size 16 = .ok (.bipush 16, 2) := by decide +kernel
theorem dX12_size_18 : decode cX12_size 18 = .ok (.iload_n 1, 1) := by decide +kernel
theorem dX12_size_19 : decode cX12_size 19 = .ok (.imul, 1) := by decide +kernel
theorem dX12_size_20 : decode cX12_size 20 = .ok (.iload_n 2, 1) := by decide +kernel
theorem dX12_size_21 : decode cX12_size 21 = .ok (.iadd, 1) := by decide +kernel
theorem dX12_size_22 : decode cX12_size 22 = .ok (.istore 4, 2) := by decide +kernel
theorem dX12_size_24 : decode cX12_size 24 = .ok (.aload_n 0, 1) := by decide +kernel
theorem dX12_size_25 : decode cX12_size 25 = .ok (.getfield 93, 3) := by decide +kernel
theorem dX12_size_28 : decode cX12_size 28 = .ok (.iload 4, 2) := by decide +kernel
theorem dX12_size_30 : decode cX12_size 30 = .ok (.baload, 1) := by decide +kernel
theorem dX12_size_31 : decode cX12_size 31 = .ok (.ifCond .ne 9, 3) := by decide +kernel
theorem dX12_size_34 : decode cX12_size 34 = .ok (.aload_n 0, 1) := by decide +kernel
theorem dX12_size_35 : decode cX12_size 35 = .ok (.iconst 1, 1) := by decide +kernel
theorem dX12_size_36 : decode cX12_size 36 = .ok (.invokevirtual 131, 3) := by decide +kernel
theorem dX12_size_39 : decode cX12_size 39 = .ok (.ireturn, 1) := by decide +kernel
theorem dX12_size_40 : decode cX12_size 40 = .ok (.iload_n 3, 1) := by decide +kernel
theorem dX12_size_41 : decode cX12_size 41 = .ok (.bipush (-9), 2) := by decide +kernel
theorem dX12_size_43 : decode cX12_size 43 = .ok (.if_icmp .ne 11, 3) := by decide +kernel
theorem dX12_size_46 : decode cX12_size 46 = .ok (.aload_n 0, 1) := by decide +kernel
theorem dX12_size_47 : decode cX12_size 47 = .ok (.getfield 96, 3) := by decide +kernel
theorem dX12_size_50 : decode cX12_size 50 = .ok (.iload 4, 2) := by decide +kernel
theorem dX12_size_52 : decode cX12_size 52 = .ok (.iaload, 1) := by decide +kernel
theorem dX12_size_53 : decode cX12_size 53 = .ok (.ireturn, 1) := by decide +kernel
theorem dX12_size_54 : decode cX12_size 54 = .ok (.aload_n 0, 1) := by decide +kernel
theorem dX12_size_55 : decode cX12_size 55 = .ok (.getfield 87, 3) := by decide +kernel
theorem dX12_size_58 : decode cX12_size 58 = .ok (.iload 4, 2) := by decide +kernel
theorem dX12_size_60 : decode cX12_size 60 = .ok (.iaload, 1) := by decide +kernel
theorem dX12_size_61 : decode cX12_size 61 = .ok (.iconst 2, 1) := by decide +kernel
theorem dX12_size_62 : decode cX12_size 62 = .ok (.if_icmp .ge 9, 3) := by decide +kernel
theorem dX12_size_65 : decode cX12_size 65 = .ok (.aload_n 0, 1) := by decide +kernel
theorem dX12_size_66 : decode cX12_size 66 = .ok (.iconst 2, 1) := by decide +kernel
theorem dX12_size_67 : decode cX12_size 67 = .ok (.invokevirtual 131, 3) := by decide +kernel
theorem dX12_size_70 : decode cX12_size 70 = .ok (.ireturn, 1) := by decide +kernel
theorem dX12_size_71 : decode cX12_size 71 = .ok (.iload_n 3, 1) := by decide +kernel
theorem dX12_size_72 : decode cX12_size 72 = .ok (.ifCond .lt 14, 3) := by decide +kernel
theorem dX12_size_75 : decode cX12_size 75 = .ok (.iload_n 3, 1) := by decide +kernel
theorem dX12_size_76 : decode cX12_size 76 = .ok (.aload_n 0, 1) := by decide +kernel
theorem dX12_size_77 : decode cX12_size 77 = .ok (.getfield 96, 3) := by decide +kernel
theorem dX12_size_80 : decode cX12_size 80 = .ok (.iload 4, 2) := by decide +kernel
theorem dX12_size_82 : decode cX12_size 82 = .ok (.iaload, 1) := by decide +kernel
theorem dX12_size_83 : decode cX12_size 83 = .ok (.if_icmp .lt 9, 3) := by decide +kernel
theorem dX12_size_86 : decode cX12_size 86 = .ok (.aload_n 0, 1) := by decide +kernel
theorem dX12_size_87 : decode cX12_size 87 = .ok (.iconst 3, 1) := by decide +kernel
theorem dX12_size_88 : decode cX12_size 88 = .ok (.invokevirtual 131, 3) := by decide +kernel
theorem dX12_size_91 : decode cX12_size 91 = .ok (.ireturn, 1) := by decide +kernel
theorem dX12_size_92 : decode cX12_size 92 = .ok (.aload_n 0, 1) := by decide +kernel
theorem dX12_size_93 : decode cX12_size 93 = .ok (.getfield 99, 3) := by decide +kernel
theorem dX12_size_96 : decode cX12_size 96 = .ok (.bipush 30, 2) := by decide +kernel
theorem dX12_size_98 : decode cX12_size 98 = .ok (.iload 4, 2) := by decide +kernel
theorem dX12_size_100 : decode cX12_size 100 = .ok (.imul, 1) := by decide +kernel
theorem dX12_size_101 : decode cX12_size 101 = .ok (.iload_n 3, 1) := by decide +kernel
theorem dX12_size_102 : decode cX12_size 102 = .ok (.iadd, 1) := by decide +kernel
theorem dX12_size_103 : decode cX12_size 103 = .ok (.baload, 1) := by decide +kernel
theorem dX12_size_104 : decode cX12_size 104 = .ok (.ifCond .eq 18, 3) := by decide +kernel
theorem dX12_size_107 : decode cX12_size 107 = .ok (.aload_n 0, 1) := by decide +kernel
theorem dX12_size_108 : decode cX12_size 108 = .ok (.getfield 102, 3) := by decide +kernel
theorem dX12_size_111 : decode cX12_size 111 = .ok (.bipush 30, 2) := by decide +kernel
theorem dX12_size_113 : decode cX12_size 113 = .ok (.iload 4, 2) := by decide +kernel
theorem dX12_size_115 : decode cX12_size 115 = .ok (.imul, 1) := by decide +kernel
theorem dX12_size_116 : decode cX12_size 116 = .ok (.iload_n 3, 1) := by decide +kernel
theorem dX12_size_117 : decode cX12_size 117 = .ok (.iadd, 1) := by decide +kernel
theorem dX12_size_118 : decode cX12_size 118 = .ok (.iaload, 1) := by decide +kernel
theorem dX12_size_119 : decode cX12_size 119 = .ok (.goto 8, 3) := by decide +kernel
theorem dX12_size_122 : decode cX12_size 122 = .ok (.aload_n 0, 1) := by decide +kernel
theorem dX12_size_123 : decode cX12_size 123 = .ok (.iconst 1, 1) := by decide +kernel
theorem dX12_size_124 : decode cX12_size 124 = .ok (.invokevirtual 131, 3) := by decide +kernel
theorem dX12_size_127 : decode cX12_size 127 = .ok (.ireturn, 1) := by decide +kernel
def fn_X12_size_b86 (h : mz_H) (a0 : (Option Nat)) : mz_Res Int32 :=
  mz_chk (mz_is h a0 11) <| mz_call (fn_X12_fails h a0 3) fun v1 h =>
  mz_ret v1 h
set_option maxHeartbeats 4000000 in
set_option maxRecDepth 100000 in
theorem pf_X12_size_b86 (r : Int32) (Y : mz_Y p g RX12 cX12_size 5 (some .int) "size" (mz_AF h0) s m args meth c) (h : mz_H) (a0 : (Option Nat)) (dc ds : Nat) (hr : fn_X12_size_b86 h a0 = some (r, hf, dc, ds)) : mz_Go l g p e s m args below meth c 2 43 DC DS h0 (some (Value.int r)) hf 5 86 [(0, false, va_rf a0)] [] h dc ds := by
  unfold fn_X12_size_b86 at hr
  intro H locs cells slots ls hH hS hl hc hs
  have X := Y.1
  refine mz_aload_n X dX12_size_86 rfl (mz_at hl 0 rfl) ?_
  refine lv_iconst (v := 3) X.1 X.2.1 dX12_size_87 (by decide) ?_
  refine mz_kV Value.int X hH hS hl.1.1 [.int 3] [] hr (ct_X12_fails l g h a0 3) mb_RX12_131 rfl im_X12_fails rfl (Nat.le_of_ble_eq_true rfl) ⟨Nat.le_of_ble_eq_true rfl, Nat.le_of_ble_eq_true rfl⟩ hc hs dX12_size_88 rfl (fun v1 h H locs cells slots dc ds hr hH hS hc hs => ?_)
  exact mz_iret Y dX12_size_91 hH hS hc hs hr
def fn_X12_size (h : mz_H) (a0 : (Option Nat)) (x1 : Int32) (x2 : Int32) (x3 : Int32) : mz_Res Int32 :=
  mz_op (mz_pF h a0 11 0 (Value.int 0)) fun h =>
  mz_chk (mz_is h a0 11) <| mz_call (fn_X12_isSlot h a0 x1 x2) fun v1 h =>
  if v1 = 0 then
    mz_ret (-1) h
  else
    mz_op (some ((16 * x1) + x2)) fun v2 =>
    mz_op (mz_fR h a0 11 39) fun v3 =>
    mz_op (mz_aI h v3 2 v2) fun v4 =>
    if v4 = 0 then
      mz_chk (mz_is h a0 11) <| mz_call (fn_X12_fails h a0 1) fun v17 h =>
      mz_ret v17 h
    else
      if x3 = (-9) then
        mz_op (mz_fR h a0 11 40) fun v15 =>
        mz_op (mz_aI h v15 0 v2) fun v16 =>
        mz_ret v16 h
      else
        mz_op (mz_fR h a0 11 37) fun v5 =>
        mz_op (mz_aI h v5 0 v2) fun v6 =>
        if 2 ≤ v6 then
          if x3 < 0 then
            fn_X12_size_b86 h a0
          else
            mz_op (mz_fR h a0 11 40) fun v7 =>
            mz_op (mz_aI h v7 0 v2) fun v8 =>
            if x3 < v8 then
              mz_op (mz_fR h a0 11 41) fun v9 =>
              mz_op (mz_aI h v9 2 ((30 * v2) + x3)) fun v10 =>
              if v10 = 0 then
                mz_chk (mz_is h a0 11) <| mz_call (fn_X12_fails h a0 1) fun v11 h =>
                mz_ret v11 h
              else
                mz_op (mz_fR h a0 11 42) fun v12 =>
                mz_op (mz_aI h v12 0 ((30 * v2) + x3)) fun v13 =>
                mz_ret v13 h
            else
              fn_X12_size_b86 h a0
        else
          mz_chk (mz_is h a0 11) <| mz_call (fn_X12_fails h a0 2) fun v14 h =>
          mz_ret v14 h
set_option maxHeartbeats 4000000 in
set_option maxRecDepth 100000 in
theorem pf_X12_size_b0 (r : Int32) (Y : mz_Y p g RX12 cX12_size 5 (some .int) "size" (mz_AF h0) s m args meth c) (h : mz_H) (a0 : (Option Nat)) (x1 : Int32) (x2 : Int32) (x3 : Int32) (dc ds : Nat) (hr : fn_X12_size h a0 x1 x2 x3 = some (r, hf, dc, ds)) : mz_Go l g p e s m args below meth c 2 43 DC DS h0 (some (Value.int r)) hf 5 0 [(0, false, va_rf a0), (1, false, .int x1), (2, false, .int x2), (3, false, .int x3)] [] h dc ds := by
  unfold fn_X12_size at hr
  intro H locs cells slots ls hH hS hl hc hs
  have X := Y.1
  refine mz_aload_n X dX12_size_0 rfl (mz_at hl 0 rfl) ?_
  refine lv_iconst (v := 0) X.1 X.2.1 dX12_size_1 (by decide) ?_
  refine mz_put X hH hS fp_RX12_125 dX12_size_2 rfl rfl hr (fun h H locs hr hH hS => ?_)
  refine mz_aload_n X dX12_size_5 rfl (mz_at hl 0 rfl) ?_
  refine lv_iload_n X.1 X.2.1 dX12_size_6 rfl (mz_at hl 1 rfl) ?_
  refine lv_iload_n X.1 X.2.1 dX12_size_7 rfl (mz_at hl 2 rfl) ?_
  refine mz_kV Value.int X hH hS hl.1.1 [.int x1, .int x2] [] hr (ct_X12_isSlot l g h a0 x1 x2) mb_RX12_226 rfl im_X12_isSlot rfl (Nat.le_of_ble_eq_true rfl) ⟨Nat.le_of_ble_eq_true rfl, Nat.le_of_ble_eq_true rfl⟩ hc hs dX12_size_8 rfl (fun v1 h H locs cells slots dc ds hr hH hS hc hs => ?_)
  refine mz_if_ne X 16 dX12_size_11 (by decide) hr (fun hr => ?_) (fun hr => ?_)
  · refine lv_bipush (v := 16) X.1 X.2.1 dX12_size_16 (by decide) ?_
    refine lv_iload_n X.1 X.2.1 dX12_size_18 rfl (mz_at hl 1 rfl) ?_
    refine lv_imul X.1 X.2.1 dX12_size_19 ?_
    refine lv_iload_n X.1 X.2.1 dX12_size_20 rfl (mz_at hl 2 rfl) ?_
    refine lv_iadd X.1 X.2.1 dX12_size_21 ?_
    refine mz_topi hr (fun v2 hv2 hr => ?_)
    refine mz_istore X [(4, false, .int v2), (0, false, va_rf a0), (1, false, .int x1), (2, false, .int x2), (3, false, .int x3)] dX12_size_22 hl (by decide) rfl (fun ls hl => ?_)
    refine mz_aload_n X dX12_size_24 rfl (mz_at hl 1 rfl) ?_
    refine mz_getR X hH fl_RX12_93 dX12_size_25 hr (fun v3 hr => ?_)
    refine lv_iload X.1 X.2.1 dX12_size_28 (mz_at hl 0 rfl) ?_
    refine mz_zald X hH dX12_size_30 hr (fun v4 hr => ?_)
    refine mz_if_ne X 40 dX12_size_31 (by decide) hr (fun hr => ?_) (fun hr => ?_)
    · refine lv_iload_n X.1 X.2.1 dX12_size_40 rfl (mz_at hl 4 rfl) ?_
      refine lv_bipush (v := (-9)) X.1 X.2.1 dX12_size_41 (by decide) ?_
      refine mz_icmp_ne X 54 dX12_size_43 (by decide) hr (fun hr => ?_) (fun hr => ?_)
      · refine mz_aload_n X dX12_size_54 rfl (mz_at hl 1 rfl) ?_
        refine mz_getR X hH fl_RX12_87 dX12_size_55 hr (fun v5 hr => ?_)
        refine lv_iload X.1 X.2.1 dX12_size_58 (mz_at hl 0 rfl) ?_
        refine mz_iald X hH dX12_size_60 hr (fun v6 hr => ?_)
        refine lv_iconst (v := 2) X.1 X.2.1 dX12_size_61 (by decide) ?_
        refine mz_icmp_ge X 71 dX12_size_62 (by decide) hr (fun hr => ?_) (fun hr => ?_)
        · refine lv_iload_n X.1 X.2.1 dX12_size_71 rfl (mz_at hl 4 rfl) ?_
          refine mz_if_lt X 86 dX12_size_72 (by decide) hr (fun hr => ?_) (fun hr => ?_)
          · exact pf_X12_size_b86 r Y h a0 _ _ hr H locs cells slots ls hH hS (mz_sub hl [1] rfl) hc hs
          · refine lv_iload_n X.1 X.2.1 dX12_size_75 rfl (mz_at hl 4 rfl) ?_
            refine mz_aload_n X dX12_size_76 rfl (mz_at hl 1 rfl) ?_
            refine mz_getR X hH fl_RX12_96 dX12_size_77 hr (fun v7 hr => ?_)
            refine lv_iload X.1 X.2.1 dX12_size_80 (mz_at hl 0 rfl) ?_
            refine mz_iald X hH dX12_size_82 hr (fun v8 hr => ?_)
            refine mz_icmp_lt X 92 dX12_size_83 (by decide) hr (fun hr => ?_) (fun hr => ?_)
            · refine mz_aload_n X dX12_size_92 rfl (mz_at hl 1 rfl) ?_
              refine mz_getR X hH fl_RX12_99 dX12_size_93 hr (fun v9 hr => ?_)
              refine lv_bipush (v := 30) X.1 X.2.1 dX12_size_96 (by decide) ?_
              refine lv_iload X.1 X.2.1 dX12_size_98 (mz_at hl 0 rfl) ?_
              refine lv_imul X.1 X.2.1 dX12_size_100 ?_
              refine lv_iload_n X.1 X.2.1 dX12_size_101 rfl (mz_at hl 4 rfl) ?_
              refine lv_iadd X.1 X.2.1 dX12_size_102 ?_
              refine mz_zald X hH dX12_size_103 hr (fun v10 hr => ?_)
              refine mz_if_eq X 122 dX12_size_104 (by decide) hr (fun hr => ?_) (fun hr => ?_)
              · refine mz_aload_n X dX12_size_122 rfl (mz_at hl 1 rfl) ?_
                refine lv_iconst (v := 1) X.1 X.2.1 dX12_size_123 (by decide) ?_
                refine mz_kV Value.int X hH hS hl.1.1 [.int 1] [] hr (ct_X12_fails l g h a0 1) mb_RX12_131 rfl im_X12_fails rfl (Nat.le_of_ble_eq_true rfl) ⟨Nat.le_of_ble_eq_true rfl, Nat.le_of_ble_eq_true rfl⟩ hc hs dX12_size_124 rfl (fun v11 h H locs cells slots dc ds hr hH hS hc hs => ?_)
                exact mz_iret Y dX12_size_127 hH hS hc hs hr
              · refine mz_aload_n X dX12_size_107 rfl (mz_at hl 1 rfl) ?_
                refine mz_getR X hH fl_RX12_102 dX12_size_108 hr (fun v12 hr => ?_)
                refine lv_bipush (v := 30) X.1 X.2.1 dX12_size_111 (by decide) ?_
                refine lv_iload X.1 X.2.1 dX12_size_113 (mz_at hl 0 rfl) ?_
                refine lv_imul X.1 X.2.1 dX12_size_115 ?_
                refine lv_iload_n X.1 X.2.1 dX12_size_116 rfl (mz_at hl 4 rfl) ?_
                refine lv_iadd X.1 X.2.1 dX12_size_117 ?_
                refine mz_iald X hH dX12_size_118 hr (fun v13 hr => ?_)
                refine lv_goto (tgt := 127) X.1 X.2.1 dX12_size_119 (by decide) ?_
                exact mz_iret Y dX12_size_127 hH hS hc hs hr
            · exact pf_X12_size_b86 r Y h a0 _ _ hr H locs cells slots ls hH hS (mz_sub hl [1] rfl) hc hs
        · refine mz_aload_n X dX12_size_65 rfl (mz_at hl 1 rfl) ?_
          refine lv_iconst (v := 2) X.1 X.2.1 dX12_size_66 (by decide) ?_
          refine mz_kV Value.int X hH hS hl.1.1 [.int 2] [] hr (ct_X12_fails l g h a0 2) mb_RX12_131 rfl im_X12_fails rfl (Nat.le_of_ble_eq_true rfl) ⟨Nat.le_of_ble_eq_true rfl, Nat.le_of_ble_eq_true rfl⟩ hc hs dX12_size_67 rfl (fun v14 h H locs cells slots dc ds hr hH hS hc hs => ?_)
          exact mz_iret Y dX12_size_70 hH hS hc hs hr
      · refine mz_aload_n X dX12_size_46 rfl (mz_at hl 1 rfl) ?_
        refine mz_getR X hH fl_RX12_96 dX12_size_47 hr (fun v15 hr => ?_)
        refine lv_iload X.1 X.2.1 dX12_size_50 (mz_at hl 0 rfl) ?_
        refine mz_iald X hH dX12_size_52 hr (fun v16 hr => ?_)
        exact mz_iret Y dX12_size_53 hH hS hc hs hr
    · refine mz_aload_n X dX12_size_34 rfl (mz_at hl 1 rfl) ?_
      refine lv_iconst (v := 1) X.1 X.2.1 dX12_size_35 (by decide) ?_
      refine mz_kV Value.int X hH hS hl.1.1 [.int 1] [] hr (ct_X12_fails l g h a0 1) mb_RX12_131 rfl im_X12_fails rfl (Nat.le_of_ble_eq_true rfl) ⟨Nat.le_of_ble_eq_true rfl, Nat.le_of_ble_eq_true rfl⟩ hc hs dX12_size_36 rfl (fun v17 h H locs cells slots dc ds hr hH hS hc hs => ?_)
      exact mz_iret Y dX12_size_39 hH hS hc hs hr
  · refine lv_iconst (v := (-1)) X.1 X.2.1 dX12_size_14 (by decide) ?_
    exact mz_iret Y dX12_size_15 hH hS hc hs hr
set_option maxRecDepth 100000 in
theorem ct_X12_size (l : Launch) (g : mz_G) (h : mz_H) (a0 : (Option Nat)) (x1 : Int32) (x2 : Int32) (x3 : Int32) (r : Int32) (hf : mz_H) (k n : Nat) (hr : fn_X12_size h a0 x1 x2 x3 = some (r, hf, k, n)) : mz_C l g yX12_size cX12_size 5 (some .int) 2 43 [va_rf a0, .int x1, .int x2, .int x3] h (some (Value.int r)) hf k n := by
  refine mz_met (as := [(false, va_rf a0), (false, .int x1), (false, .int x2), (false, .int x3)]) (plainFor_of_name (by decide)) (mz_c1 (mz_cat_rf _) (mz_c1 rfl (mz_c1 rfl (mz_c1 rfl mz_c0)))) (Nat.le_of_ble_eq_true rfl) ?_
  intro p e s m args below meth c Y
  exact pf_X12_size_b0 r Y h a0 x1 x2 x3 _ _ hr
theorem dX12_placeOf_0 : decode cX12_placeOf 0 = .ok (.aload_n 0, 1) := by decide +kernel
theorem dX12_placeOf_1 : decode cX12_placeOf 1 = .ok (.getfield 93, 3) := by decide +kernel
theorem dX12_placeOf_4 : decode cX12_placeOf 4 = .ok (.iload_n 1, 1) := by decide +kernel
theorem dX12_placeOf_5 : decode cX12_placeOf 5 = .ok (.baload, 1) := by decide +kernel
theorem dX12_placeOf_6 : decode cX12_placeOf 6 = .ok (.ifCond .ne 5, 3) := by decide +kernel
theorem dX12_placeOf_9 : decode cX12_placeOf 9 = .ok (.iconst (-1), 1) := by decide +kernel
theorem dX12_placeOf_10 : decode cX12_placeOf 10 = .ok (.ireturn, 1) := by decide +kernel
theorem dX12_placeOf_11 : decode cX12_placeOf 11 = .ok (.iload_n 2, 1) := by decide +kernel
theorem dX12_placeOf_12 : decode cX12_placeOf 12 = .ok (.ifCond .lt 13, 3) := by decide +kernel
theorem dX12_placeOf_15 : decode cX12_placeOf 15 = .ok (.iload_n 2, 1) := by decide +kernel
theorem dX12_placeOf_16 : decode cX12_placeOf 16 = .ok (.aload_n 0, 1) := by decide +kernel
theorem dX12_placeOf_17 : decode cX12_placeOf 17 = .ok (.getfield 96, 3) := by decide +kernel
theorem dX12_placeOf_20 : decode cX12_placeOf 20 = .ok (.iload_n 1, 1) := by decide +kernel
theorem dX12_placeOf_21 : decode cX12_placeOf 21 = .ok (.iaload, 1) := by decide +kernel
theorem dX12_placeOf_22 : decode cX12_placeOf 22 = .ok (.if_icmp .lt 6, 3) := by decide +kernel
theorem dX12_placeOf_25 : decode cX12_placeOf 25 = .ok (.bipush (-3), 2) := by decide +kernel
theorem dX12_placeOf_27 : decode cX12_placeOf 27 = .ok (.ireturn, 1) := by decide +kernel
theorem dX12_placeOf_28 : decode cX12_placeOf 28 = .ok (.aload_n 0, 1) := by decide +kernel
theorem dX12_placeOf_29 : decode cX12_placeOf 29 = .ok (.getfield 87, 3) := by decide +kernel
theorem dX12_placeOf_32 : decode cX12_placeOf 32 = .ok (.iload_n 1, 1) := by decide +kernel
theorem dX12_placeOf_33 : decode cX12_placeOf 33 = .ok (.iaload, 1) := by decide +kernel
theorem dX12_placeOf_34 : decode cX12_placeOf 34 = .ok (.iconst 2, 1) := by decide +kernel
theorem dX12_placeOf_35 : decode cX12_placeOf 35 = .ok (.if_icmp .ge 11, 3) := by decide +kernel
theorem dX12_placeOf_38 : decode cX12_placeOf 38 = .ok (.sipush 900, 3) := by decide +kernel
theorem dX12_placeOf_41 : decode cX12_placeOf 41 = .ok (.iload_n 1, 1) := by decide +kernel
theorem dX12_placeOf_42 : decode cX12_placeOf 42 = .ok (.imul, 1) := by decide +kernel
theorem dX12_placeOf_43 : decode cX12_placeOf 43 = .ok (.iload_n 2, 1) := by decide +kernel
theorem dX12_placeOf_44 : decode cX12_placeOf 44 = .ok (.iadd, 1) := by decide +kernel
theorem dX12_placeOf_45 : decode cX12_placeOf 45 = .ok (.ireturn, 1) := by decide +kernel
theorem dX12_placeOf_46 : decode cX12_placeOf 46 = .ok (.aload_n 0, 1) := by decide +kernel
theorem dX12_placeOf_47 : decode cX12_placeOf 47 = .ok (.getfield 99, 3) := by decide +kernel
theorem dX12_placeOf_50 : decode cX12_placeOf 50 = .ok (.bipush 30, 2) := by decide +kernel
theorem dX12_placeOf_52 : decode cX12_placeOf 52 = .ok (.iload_n 1, 1) := by decide +kernel
theorem dX12_placeOf_53 : decode cX12_placeOf 53 = .ok (.imul, 1) := by decide +kernel
theorem dX12_placeOf_54 : decode cX12_placeOf 54 = .ok (.iload_n 2, 1) := by decide +kernel
theorem dX12_placeOf_55 : decode cX12_placeOf 55 = .ok (.iadd, 1) := by decide +kernel
theorem dX12_placeOf_56 : decode cX12_placeOf 56 = .ok (.baload, 1) := by decide +kernel
theorem dX12_placeOf_57 : decode cX12_placeOf 57 = .ok (.ifCond .ne 5, 3) := by decide +kernel
theorem dX12_placeOf_60 : decode cX12_placeOf 60 = .ok (.iconst (-1), 1) := by decide +kernel
theorem dX12_placeOf_61 : decode cX12_placeOf 61 = .ok (.ireturn, 1) := by decide +kernel
theorem dX12_placeOf_62 : decode cX12_placeOf 62 = .ok (.iload_n 3, 1) := by decide +kernel
theorem dX12_placeOf_63 : decode cX12_placeOf 63 = .ok (.ifCond .lt 18, 3) := by decide +kernel
theorem dX12_placeOf_66 : decode cX12_placeOf 66 = .ok (.iload_n 3, 1) := by decide +kernel
theorem dX12_placeOf_67 : decode cX12_placeOf 67 = .ok (.aload_n 0, 1) := by decide +kernel
theorem dX12_placeOf_68 : decode cX12_placeOf 68 = .ok (.getfield 102, 3) := by decide +kernel
theorem dX12_placeOf_71 : decode cX12_placeOf 71 = .ok (.bipush 30, 2) := by decide +kernel
theorem dX12_placeOf_73 : decode cX12_placeOf 73 = .ok (.iload_n 1, 1) := by decide +kernel
theorem dX12_placeOf_74 : decode cX12_placeOf 74 = .ok (.imul, 1) := by decide +kernel
theorem dX12_placeOf_75 : decode cX12_placeOf 75 = .ok (.iload_n 2, 1) := by decide +kernel
theorem dX12_placeOf_76 : decode cX12_placeOf 76 = .ok (.iadd, 1) := by decide +kernel
theorem dX12_placeOf_77 : decode cX12_placeOf 77 = .ok (.iaload, 1) := by decide +kernel
theorem dX12_placeOf_78 : decode cX12_placeOf 78 = .ok (.if_icmp .lt 8, 3) := by decide +kernel
theorem dX12_placeOf_81 : decode cX12_placeOf 81 = .ok (.bipush (-3), 2) := by decide +kernel
theorem dX12_placeOf_83 : decode cX12_placeOf 83 = .ok (.goto 15, 3) := by decide +kernel
theorem dX12_placeOf_86 : decode cX12_placeOf 86 = .ok (.sipush 900, 3) := by decide +kernel
theorem dX12_placeOf_89 : decode cX12_placeOf 89 = .ok (.iload_n 1, 1) := by decide +kernel
theorem dX12_placeOf_90 : decode cX12_placeOf 90 = .ok (.imul, 1) := by decide +kernel
theorem dX12_placeOf_91 : decode cX12_placeOf 91 = .ok (.bipush 30, 2) := by decide +kernel
theorem dX12_placeOf_93 : decode cX12_placeOf 93 = .ok (.iload_n 2, 1) := by decide +kernel
theorem dX12_placeOf_94 : decode cX12_placeOf 94 = .ok (.imul, 1) := by decide +kernel
theorem dX12_placeOf_95 : decode cX12_placeOf 95 = .ok (.iadd, 1) := by decide +kernel
theorem dX12_placeOf_96 : decode cX12_placeOf 96 = .ok (.iload_n 3, 1) := by decide +kernel
theorem dX12_placeOf_97 : decode cX12_placeOf 97 = .ok (.iadd, 1) := by decide +kernel
theorem dX12_placeOf_98 : decode cX12_placeOf 98 = .ok (.ireturn, 1) := by decide +kernel
def fn_X12_placeOf_b81 (h : mz_H) : mz_Res Int32 :=
  mz_ret (-3) h
set_option maxHeartbeats 4000000 in
set_option maxRecDepth 100000 in
theorem pf_X12_placeOf_b81 (r : Int32) (Y : mz_Y p g RX12 cX12_placeOf 4 (some .int) "placeOf" (mz_AF h0) s m args meth c) (h : mz_H) (dc ds : Nat) (hr : fn_X12_placeOf_b81 h = some (r, hf, dc, ds)) : mz_Go l g p e s m args below meth c 0 0 DC DS h0 (some (Value.int r)) hf 4 81 [] [] h dc ds := by
  unfold fn_X12_placeOf_b81 at hr
  intro H locs cells slots ls hH hS hl hc hs
  have X := Y.1
  refine lv_bipush (v := (-3)) X.1 X.2.1 dX12_placeOf_81 (by decide) ?_
  refine lv_goto (tgt := 98) X.1 X.2.1 dX12_placeOf_83 (by decide) ?_
  exact mz_iret Y dX12_placeOf_98 hH hS hc hs hr
def fn_X12_placeOf (h : mz_H) (a0 : (Option Nat)) (x1 : Int32) (x2 : Int32) (x3 : Int32) : mz_Res Int32 :=
  mz_op (mz_fR h a0 11 39) fun v1 =>
  mz_op (mz_aI h v1 2 x1) fun v2 =>
  if v2 = 0 then
    mz_ret (-1) h
  else
    if x2 < 0 then
      mz_ret (-3) h
    else
      mz_op (mz_fR h a0 11 40) fun v3 =>
      mz_op (mz_aI h v3 0 x1) fun v4 =>
      if x2 < v4 then
        mz_op (mz_fR h a0 11 37) fun v5 =>
        mz_op (mz_aI h v5 0 x1) fun v6 =>
        if 2 ≤ v6 then
          mz_op (mz_fR h a0 11 41) fun v7 =>
          mz_op (mz_aI h v7 2 ((30 * x1) + x2)) fun v8 =>
          if v8 = 0 then
            mz_ret (-1) h
          else
            if x3 < 0 then
              fn_X12_placeOf_b81 h
            else
              mz_op (mz_fR h a0 11 42) fun v9 =>
              mz_op (mz_aI h v9 0 ((30 * x1) + x2)) fun v10 =>
              if x3 < v10 then
                mz_ret (((900 * x1) + (30 * x2)) + x3) h
              else
                fn_X12_placeOf_b81 h
        else
          mz_ret ((900 * x1) + x2) h
      else
        mz_ret (-3) h
set_option maxHeartbeats 4000000 in
set_option maxRecDepth 100000 in
theorem pf_X12_placeOf_b0 (r : Int32) (Y : mz_Y p g RX12 cX12_placeOf 4 (some .int) "placeOf" (mz_AF h0) s m args meth c) (h : mz_H) (a0 : (Option Nat)) (x1 : Int32) (x2 : Int32) (x3 : Int32) (dc ds : Nat) (hr : fn_X12_placeOf h a0 x1 x2 x3 = some (r, hf, dc, ds)) : mz_Go l g p e s m args below meth c 0 0 DC DS h0 (some (Value.int r)) hf 4 0 [(0, false, va_rf a0), (1, false, .int x1), (2, false, .int x2), (3, false, .int x3)] [] h dc ds := by
  unfold fn_X12_placeOf at hr
  intro H locs cells slots ls hH hS hl hc hs
  have X := Y.1
  refine mz_aload_n X dX12_placeOf_0 rfl (mz_at hl 0 rfl) ?_
  refine mz_getR X hH fl_RX12_93 dX12_placeOf_1 hr (fun v1 hr => ?_)
  refine lv_iload_n X.1 X.2.1 dX12_placeOf_4 rfl (mz_at hl 1 rfl) ?_
  refine mz_zald X hH dX12_placeOf_5 hr (fun v2 hr => ?_)
  refine mz_if_ne X 11 dX12_placeOf_6 (by decide) hr (fun hr => ?_) (fun hr => ?_)
  · refine lv_iload_n X.1 X.2.1 dX12_placeOf_11 rfl (mz_at hl 2 rfl) ?_
    refine mz_if_lt X 25 dX12_placeOf_12 (by decide) hr (fun hr => ?_) (fun hr => ?_)
    · refine lv_bipush (v := (-3)) X.1 X.2.1 dX12_placeOf_25 (by decide) ?_
      exact mz_iret Y dX12_placeOf_27 hH hS hc hs hr
    · refine lv_iload_n X.1 X.2.1 dX12_placeOf_15 rfl (mz_at hl 2 rfl) ?_
      refine mz_aload_n X dX12_placeOf_16 rfl (mz_at hl 0 rfl) ?_
      refine mz_getR X hH fl_RX12_96 dX12_placeOf_17 hr (fun v3 hr => ?_)
      refine lv_iload_n X.1 X.2.1 dX12_placeOf_20 rfl (mz_at hl 1 rfl) ?_
      refine mz_iald X hH dX12_placeOf_21 hr (fun v4 hr => ?_)
      refine mz_icmp_lt X 28 dX12_placeOf_22 (by decide) hr (fun hr => ?_) (fun hr => ?_)
      · refine mz_aload_n X dX12_placeOf_28 rfl (mz_at hl 0 rfl) ?_
        refine mz_getR X hH fl_RX12_87 dX12_placeOf_29 hr (fun v5 hr => ?_)
        refine lv_iload_n X.1 X.2.1 dX12_placeOf_32 rfl (mz_at hl 1 rfl) ?_
        refine mz_iald X hH dX12_placeOf_33 hr (fun v6 hr => ?_)
        refine lv_iconst (v := 2) X.1 X.2.1 dX12_placeOf_34 (by decide) ?_
        refine mz_icmp_ge X 46 dX12_placeOf_35 (by decide) hr (fun hr => ?_) (fun hr => ?_)
        · refine mz_aload_n X dX12_placeOf_46 rfl (mz_at hl 0 rfl) ?_
          refine mz_getR X hH fl_RX12_99 dX12_placeOf_47 hr (fun v7 hr => ?_)
          refine lv_bipush (v := 30) X.1 X.2.1 dX12_placeOf_50 (by decide) ?_
          refine lv_iload_n X.1 X.2.1 dX12_placeOf_52 rfl (mz_at hl 1 rfl) ?_
          refine lv_imul X.1 X.2.1 dX12_placeOf_53 ?_
          refine lv_iload_n X.1 X.2.1 dX12_placeOf_54 rfl (mz_at hl 2 rfl) ?_
          refine lv_iadd X.1 X.2.1 dX12_placeOf_55 ?_
          refine mz_zald X hH dX12_placeOf_56 hr (fun v8 hr => ?_)
          refine mz_if_ne X 62 dX12_placeOf_57 (by decide) hr (fun hr => ?_) (fun hr => ?_)
          · refine lv_iload_n X.1 X.2.1 dX12_placeOf_62 rfl (mz_at hl 3 rfl) ?_
            refine mz_if_lt X 81 dX12_placeOf_63 (by decide) hr (fun hr => ?_) (fun hr => ?_)
            · exact pf_X12_placeOf_b81 r Y h  _ _ hr H locs cells slots ls hH hS (mz_sub hl [] rfl) hc hs
            · refine lv_iload_n X.1 X.2.1 dX12_placeOf_66 rfl (mz_at hl 3 rfl) ?_
              refine mz_aload_n X dX12_placeOf_67 rfl (mz_at hl 0 rfl) ?_
              refine mz_getR X hH fl_RX12_102 dX12_placeOf_68 hr (fun v9 hr => ?_)
              refine lv_bipush (v := 30) X.1 X.2.1 dX12_placeOf_71 (by decide) ?_
              refine lv_iload_n X.1 X.2.1 dX12_placeOf_73 rfl (mz_at hl 1 rfl) ?_
              refine lv_imul X.1 X.2.1 dX12_placeOf_74 ?_
              refine lv_iload_n X.1 X.2.1 dX12_placeOf_75 rfl (mz_at hl 2 rfl) ?_
              refine lv_iadd X.1 X.2.1 dX12_placeOf_76 ?_
              refine mz_iald X hH dX12_placeOf_77 hr (fun v10 hr => ?_)
              refine mz_icmp_lt X 86 dX12_placeOf_78 (by decide) hr (fun hr => ?_) (fun hr => ?_)
              · refine lv_sipush (v := 900) X.1 X.2.1 dX12_placeOf_86 (by decide) ?_
                refine lv_iload_n X.1 X.2.1 dX12_placeOf_89 rfl (mz_at hl 1 rfl) ?_
                refine lv_imul X.1 X.2.1 dX12_placeOf_90 ?_
                refine lv_bipush (v := 30) X.1 X.2.1 dX12_placeOf_91 (by decide) ?_
                refine lv_iload_n X.1 X.2.1 dX12_placeOf_93 rfl (mz_at hl 2 rfl) ?_
                refine lv_imul X.1 X.2.1 dX12_placeOf_94 ?_
                refine lv_iadd X.1 X.2.1 dX12_placeOf_95 ?_
                refine lv_iload_n X.1 X.2.1 dX12_placeOf_96 rfl (mz_at hl 3 rfl) ?_
                refine lv_iadd X.1 X.2.1 dX12_placeOf_97 ?_
                exact mz_iret Y dX12_placeOf_98 hH hS hc hs hr
              · exact pf_X12_placeOf_b81 r Y h  _ _ hr H locs cells slots ls hH hS (mz_sub hl [] rfl) hc hs
          · refine lv_iconst (v := (-1)) X.1 X.2.1 dX12_placeOf_60 (by decide) ?_
            exact mz_iret Y dX12_placeOf_61 hH hS hc hs hr
        · refine lv_sipush (v := 900) X.1 X.2.1 dX12_placeOf_38 (by decide) ?_
          refine lv_iload_n X.1 X.2.1 dX12_placeOf_41 rfl (mz_at hl 1 rfl) ?_
          refine lv_imul X.1 X.2.1 dX12_placeOf_42 ?_
          refine lv_iload_n X.1 X.2.1 dX12_placeOf_43 rfl (mz_at hl 2 rfl) ?_
          refine lv_iadd X.1 X.2.1 dX12_placeOf_44 ?_
          exact mz_iret Y dX12_placeOf_45 hH hS hc hs hr
      · refine lv_bipush (v := (-3)) X.1 X.2.1 dX12_placeOf_25 (by decide) ?_
        exact mz_iret Y dX12_placeOf_27 hH hS hc hs hr
  · refine lv_iconst (v := (-1)) X.1 X.2.1 dX12_placeOf_9 (by decide) ?_
    exact mz_iret Y dX12_placeOf_10 hH hS hc hs hr
set_option maxRecDepth 100000 in
theorem ct_X12_placeOf (l : Launch) (g : mz_G) (h : mz_H) (a0 : (Option Nat)) (x1 : Int32) (x2 : Int32) (x3 : Int32) (r : Int32) (hf : mz_H) (k n : Nat) (hr : fn_X12_placeOf h a0 x1 x2 x3 = some (r, hf, k, n)) : mz_C l g yX12_placeOf cX12_placeOf 4 (some .int) 0 0 [va_rf a0, .int x1, .int x2, .int x3] h (some (Value.int r)) hf k n := by
  refine mz_met (as := [(false, va_rf a0), (false, .int x1), (false, .int x2), (false, .int x3)]) (plainFor_of_name (by decide)) (mz_c1 (mz_cat_rf _) (mz_c1 rfl (mz_c1 rfl (mz_c1 rfl mz_c0)))) (Nat.le_of_ble_eq_true rfl) ?_
  intro p e s m args below meth c Y
  exact pf_X12_placeOf_b0 r Y h a0 x1 x2 x3 _ _ hr
theorem dX12_get_0 : decode cX12_get 0 = .ok (.aload_n 0, 1) := by decide +kernel
theorem dX12_get_1 : decode cX12_get 1 = .ok (.iconst 0, 1) := by decide +kernel
theorem dX12_get_2 : decode cX12_get 2 = .ok (.putfield 125, 3) := by decide +kernel
theorem dX12_get_5 : decode cX12_get 5 = .ok (.aload_n 0, 1) := by decide +kernel
theorem dX12_get_6 : decode cX12_get 6 = .ok (.iload_n 1, 1) := by decide +kernel
theorem dX12_get_7 : decode cX12_get 7 = .ok (.iload_n 2, 1) := by decide +kernel
theorem dX12_get_8 : decode cX12_get 8 = .ok (.invokevirtual 226, 3) := by decide +kernel
theorem dX12_get_11 : decode cX12_get 11 = .ok (.ifCond .ne 5, 3) := by decide +kernel
theorem dX12_get_14 : decode cX12_get 14 = .ok (.lconst 0, 1) := by decide +kernel
theorem dX12_get_15 : decode cX12_get 15 = .ok (.lreturn, 1) := by decide +kernel
theorem dX12_get_16 : decode cX12_get 16 = .ok (.aload_n 0, 1) := by decide +kernel
theorem dX12_get_17 : decode cX12_get 17 = .ok (.bipush 16, 2) := by decide +kernel
theorem dX12_get_19 : decode cX12_get 19 = .ok (.iload_n 1, 1) := by decide +kernel
theorem dX12_get_20 : decode cX12_get 20 = .ok (.imul, 1) := by decide +kernel
theorem dX12_get_21 : decode cX12_get 21 = .ok (.iload_n 2, 1) := by decide +kernel
theorem dX12_get_22 : decode cX12_get 22 = .ok (.iadd, 1) := by decide +kernel
theorem dX12_get_23 : decode cX12_get 23 = .ok (.iload_n 3, 1) := by decide +kernel
theorem dX12_get_24 : decode cX12_get 24 = .ok (.iload 4, 2) := by decide +kernel
theorem dX12_get_26 : decode cX12_get 26 = .ok (.invokevirtual 229, 3) := by decide +kernel
theorem dX12_get_29 : decode cX12_get 29 = .ok (.istore 5, 2) := by decide +kernel
theorem dX12_get_31 : decode cX12_get 31 = .ok (.iload 5, 2) := by decide +kernel
theorem dX12_get_33 : decode cX12_get 33 = .ok (.ifCond .ge 13, 3) := by decide +kernel
theorem dX12_get_36 : decode cX12_get 36 = .ok (.aload_n 0, 1) := by decide +kernel
theorem dX12_get_37 : decode cX12_get 37 = .ok (.iload 5, 2) := by decide +kernel
theorem dX12_get_39 : decode cX12_get 39 = .ok (.ineg, 1) := by decide +kernel
theorem dX12_get_40 : decode cX12_get 40 = .ok (.invokevirtual 233, 3) := by decide +kernel
theorem dX12_get_43 : decode cX12_get 43 = .ok (.goto 10, 3) := by decide +kernel
theorem dX12_get_46 : decode cX12_get 46 = .ok (.aload_n 0, 1) := by decide +kernel
theorem dX12_get_47 : decode cX12_get 47 = .ok (.getfield 106, 3) := by decide +kernel
theorem dX12_get_50 : decode cX12_get 50 = .ok (.iload 5, 2) := by decide +kernel
theorem dX12_get_52 : decode cX12_get 52 = .ok (.laload, 1) := by decide +kernel
theorem dX12_get_53 : decode cX12_get 53 = .ok (.lreturn, 1) := by decide +kernel
def fn_X12_get (h : mz_H) (a0 : (Option Nat)) (x1 : Int32) (x2 : Int32) (x3 : Int32) (x4 : Int32) : mz_Res Int64 :=
  mz_op (mz_pF h a0 11 0 (Value.int 0)) fun h =>
  mz_chk (mz_is h a0 11) <| mz_call (fn_X12_isSlot h a0 x1 x2) fun v1 h =>
  if v1 = 0 then
    mz_ret 0 h
  else
    mz_chk (mz_is h a0 11) <| mz_call (fn_X12_placeOf h a0 ((16 * x1) + x2) x3 x4) fun v2 h =>
    if 0 ≤ v2 then
      mz_op (mz_fR h a0 11 43) fun v3 =>
      mz_op (mz_aJ h v3 v2) fun v4 =>
      mz_ret v4 h
    else
      mz_chk (mz_is h a0 11) <| mz_call (fn_X12_failsLong h a0 (-v2)) fun v5 h =>
      mz_ret v5 h
set_option maxHeartbeats 4000000 in
set_option maxRecDepth 100000 in
theorem pf_X12_get_b0 (r : Int64) (Y : mz_Y p g RX12 cX12_get 6 (some .long) "get" (mz_AF h0) s m args meth c) (h : mz_H) (a0 : (Option Nat)) (x1 : Int32) (x2 : Int32) (x3 : Int32) (x4 : Int32) (dc ds : Nat) (hr : fn_X12_get h a0 x1 x2 x3 x4 = some (r, hf, dc, ds)) : mz_Go l g p e s m args below meth c 2 43 DC DS h0 (some (Value.long r)) hf 6 0 [(0, false, va_rf a0), (1, false, .int x1), (2, false, .int x2), (3, false, .int x3), (4, false, .int x4)] [] h dc ds := by
  unfold fn_X12_get at hr
  intro H locs cells slots ls hH hS hl hc hs
  have X := Y.1
  refine mz_aload_n X dX12_get_0 rfl (mz_at hl 0 rfl) ?_
  refine lv_iconst (v := 0) X.1 X.2.1 dX12_get_1 (by decide) ?_
  refine mz_put X hH hS fp_RX12_125 dX12_get_2 rfl rfl hr (fun h H locs hr hH hS => ?_)
  refine mz_aload_n X dX12_get_5 rfl (mz_at hl 0 rfl) ?_
  refine lv_iload_n X.1 X.2.1 dX12_get_6 rfl (mz_at hl 1 rfl) ?_
  refine lv_iload_n X.1 X.2.1 dX12_get_7 rfl (mz_at hl 2 rfl) ?_
  refine mz_kV Value.int X hH hS hl.1.1 [.int x1, .int x2] [] hr (ct_X12_isSlot l g h a0 x1 x2) mb_RX12_226 rfl im_X12_isSlot rfl (Nat.le_of_ble_eq_true rfl) ⟨Nat.le_of_ble_eq_true rfl, Nat.le_of_ble_eq_true rfl⟩ hc hs dX12_get_8 rfl (fun v1 h H locs cells slots dc ds hr hH hS hc hs => ?_)
  refine mz_if_ne X 16 dX12_get_11 (by decide) hr (fun hr => ?_) (fun hr => ?_)
  · refine mz_aload_n X dX12_get_16 rfl (mz_at hl 0 rfl) ?_
    refine lv_bipush (v := 16) X.1 X.2.1 dX12_get_17 (by decide) ?_
    refine lv_iload_n X.1 X.2.1 dX12_get_19 rfl (mz_at hl 1 rfl) ?_
    refine lv_imul X.1 X.2.1 dX12_get_20 ?_
    refine lv_iload_n X.1 X.2.1 dX12_get_21 rfl (mz_at hl 2 rfl) ?_
    refine lv_iadd X.1 X.2.1 dX12_get_22 ?_
    refine lv_iload_n X.1 X.2.1 dX12_get_23 rfl (mz_at hl 3 rfl) ?_
    refine lv_iload X.1 X.2.1 dX12_get_24 (mz_at hl 4 rfl) ?_
    refine mz_kV Value.int X hH hS hl.1.1 [.int ((16 * x1) + x2), .int x3, .int x4] [] hr (ct_X12_placeOf l g h a0 ((16 * x1) + x2) x3 x4) mb_RX12_229 rfl im_X12_placeOf rfl (Nat.le_of_ble_eq_true rfl) ⟨Nat.le_of_ble_eq_true rfl, Nat.le_of_ble_eq_true rfl⟩ hc hs dX12_get_26 rfl (fun v2 h H locs cells slots dc ds hr hH hS hc hs => ?_)
    refine mz_istore X [(5, false, .int v2), (0, false, va_rf a0), (1, false, .int x1), (2, false, .int x2), (3, false, .int x3), (4, false, .int x4)] dX12_get_29 hl (by decide) rfl (fun ls hl => ?_)
    refine lv_iload X.1 X.2.1 dX12_get_31 (mz_at hl 0 rfl) ?_
    refine mz_if_ge X 46 dX12_get_33 (by decide) hr (fun hr => ?_) (fun hr => ?_)
    · refine mz_aload_n X dX12_get_46 rfl (mz_at hl 1 rfl) ?_
      refine mz_getR X hH fl_RX12_106 dX12_get_47 hr (fun v3 hr => ?_)
      refine lv_iload X.1 X.2.1 dX12_get_50 (mz_at hl 0 rfl) ?_
      refine mz_lald X hH dX12_get_52 hr (fun v4 hr => ?_)
      exact mz_lret Y dX12_get_53 hH hS hc hs hr
    · refine mz_aload_n X dX12_get_36 rfl (mz_at hl 1 rfl) ?_
      refine lv_iload X.1 X.2.1 dX12_get_37 (mz_at hl 0 rfl) ?_
      refine lv_ineg X.1 X.2.1 dX12_get_39 ?_
      refine mz_kV Value.long X hH hS hl.1.1 [.int (-v2)] [] hr (ct_X12_failsLong l g h a0 (-v2)) mb_RX12_233 rfl im_X12_failsLong rfl (Nat.le_of_ble_eq_true rfl) ⟨Nat.le_of_ble_eq_true rfl, Nat.le_of_ble_eq_true rfl⟩ hc hs dX12_get_40 rfl (fun v5 h H locs cells slots dc ds hr hH hS hc hs => ?_)
      refine lv_goto (tgt := 53) X.1 X.2.1 dX12_get_43 (by decide) ?_
      exact mz_lret Y dX12_get_53 hH hS hc hs hr
  · refine lv_lconst (v := 0) X.1 X.2.1 dX12_get_14 (by decide) ?_
    exact mz_lret Y dX12_get_15 hH hS hc hs hr
set_option maxRecDepth 100000 in
theorem ct_X12_get (l : Launch) (g : mz_G) (h : mz_H) (a0 : (Option Nat)) (x1 : Int32) (x2 : Int32) (x3 : Int32) (x4 : Int32) (r : Int64) (hf : mz_H) (k n : Nat) (hr : fn_X12_get h a0 x1 x2 x3 x4 = some (r, hf, k, n)) : mz_C l g yX12_get cX12_get 6 (some .long) 2 43 [va_rf a0, .int x1, .int x2, .int x3, .int x4] h (some (Value.long r)) hf k n := by
  refine mz_met (as := [(false, va_rf a0), (false, .int x1), (false, .int x2), (false, .int x3), (false, .int x4)]) (plainFor_of_name (by decide)) (mz_c1 (mz_cat_rf _) (mz_c1 rfl (mz_c1 rfl (mz_c1 rfl (mz_c1 rfl mz_c0))))) (Nat.le_of_ble_eq_true rfl) ?_
  intro p e s m args below meth c Y
  exact pf_X12_get_b0 r Y h a0 x1 x2 x3 x4 _ _ hr
theorem dX12_isNumber_0 : decode cX12_isNumber 0 = .ok (.lload_n 0, 1) := by decide +kernel
theorem dX12_isNumber_1 : decode cX12_isNumber 1 = .ok (.ldc2_w 237, 3) := by decide +kernel
theorem dX12_isNumber_4 : decode cX12_isNumber 4 = .ok (.land, 1) := by decide +kernel
theorem dX12_isNumber_5 : decode cX12_isNumber 5 = .ok (.ldc2_w 239, 3) := by decide +kernel
theorem dX12_isNumber_8 : decode cX12_isNumber 8 = .ok (.lcmp, 1) := by decide +kernel
theorem dX12_isNumber_9 : decode cX12_isNumber 9 = .ok (.ifCond .gt 7, 3) := by decide +kernel
theorem dX12_isNumber_12 : decode cX12_isNumber 12 = .ok (.iconst 1, 1) := by decide +kernel
theorem dX12_isNumber_13 : decode cX12_isNumber 13 = .ok (.goto 4, 3) := by decide +kernel
theorem dX12_isNumber_16 : decode cX12_isNumber 16 = .ok (.iconst 0, 1) := by decide +kernel
theorem dX12_isNumber_17 : decode cX12_isNumber 17 = .ok (.ireturn, 1) := by decide +kernel
def fn_X12_isNumber (h : mz_H) (j0 : Int64) : mz_Res Int32 :=
  if 0 < (lg_cmp (j0 &&& 9223372036854775807) 9218868437227405312) then
    mz_chk ((0 : Int32) &&& 1 == 0) (mz_ret 0 h)
  else
    mz_chk ((1 : Int32) &&& 1 == 1) (mz_ret 1 h)
set_option maxHeartbeats 4000000 in
set_option maxRecDepth 100000 in
theorem pf_X12_isNumber_b0 (r : Int32) (Y : mz_Y p g RX12 cX12_isNumber 2 (some .boolean) "isNumber" (mz_AF h0) s m args meth c) (h : mz_H) (j0 : Int64) (dc ds : Nat) (hr : fn_X12_isNumber h j0 = some (r, hf, dc, ds)) : mz_Go l g p e s m args below meth c 0 0 DC DS h0 (some (Value.int r)) hf 2 0 [(0, true, .long j0)] [] h dc ds := by
  unfold fn_X12_isNumber at hr
  intro H locs cells slots ls hH hS hl hc hs
  have X := Y.1
  refine lv_lload_n X.1 X.2.1 dX12_isNumber_0 rfl (mz_at hl 0 rfl) ?_
  refine mz_ldc2 (v := 9223372036854775807) X (mz_tb 1303 (by decide +kernel) rfl) dX12_isNumber_1 ?_
  refine lv_land X.1 X.2.1 dX12_isNumber_4 ?_
  refine mz_ldc2 (v := 9218868437227405312) X (mz_tb 1304 (by decide +kernel) rfl) dX12_isNumber_5 ?_
  refine W.lcmp X.1 X.2.1 dX12_isNumber_8 ?_
  refine mz_if_gt X 16 dX12_isNumber_9 (by decide) hr (fun hr => ?_) (fun hr => ?_)
  · refine lv_iconst (v := 0) X.1 X.2.1 dX12_isNumber_16 (by decide) ?_
    exact mz_zret Y dX12_isNumber_17 hH hS hc hs hr
  · refine lv_iconst (v := 1) X.1 X.2.1 dX12_isNumber_12 (by decide) ?_
    refine lv_goto (tgt := 17) X.1 X.2.1 dX12_isNumber_13 (by decide) ?_
    exact mz_zret Y dX12_isNumber_17 hH hS hc hs hr
set_option maxRecDepth 100000 in
theorem ct_X12_isNumber (l : Launch) (g : mz_G) (h : mz_H) (j0 : Int64) (r : Int32) (hf : mz_H) (k n : Nat) (hr : fn_X12_isNumber h j0 = some (r, hf, k, n)) : mz_C l g yX12_isNumber cX12_isNumber 2 (some .boolean) 0 0 [.long j0] h (some (Value.int r)) hf k n := by
  refine mz_met (as := [(true, .long j0)]) (plainFor_of_name (by decide)) (mz_c1 rfl mz_c0) (Nat.le_of_ble_eq_true rfl) ?_
  intro p e s m args below meth c Y
  exact pf_X12_isNumber_b0 r Y h j0 _ _ hr
theorem dX12_isFinite_0 : decode cX12_isFinite 0 = .ok (.lload_n 0, 1) := by decide +kernel
theorem dX12_isFinite_1 : decode cX12_isFinite 1 = .ok (.ldc2_w 237, 3) := by decide +kernel
theorem dX12_isFinite_4 : decode cX12_isFinite 4 = .ok (.land, 1) := by decide +kernel
theorem dX12_isFinite_5 : decode cX12_isFinite 5 = .ok (.ldc2_w 239, 3) := by decide +kernel
theorem dX12_isFinite_8 : decode cX12_isFinite 8 = .ok (.lcmp, 1) := by decide +kernel
theorem dX12_isFinite_9 : decode cX12_isFinite 9 = .ok (.ifCond .ge 7, 3) := by decide +kernel
theorem dX12_isFinite_12 : decode cX12_isFinite 12 = .ok (.iconst 1, 1) := by decide +kernel
theorem dX12_isFinite_13 : decode cX12_isFinite 13 = .ok (.goto 4, 3) := by decide +kernel
theorem dX12_isFinite_16 : decode cX12_isFinite 16 = .ok (.iconst 0, 1) := by decide +kernel
theorem dX12_isFinite_17 : decode cX12_isFinite 17 = .ok (.ireturn, 1) := by decide +kernel
def fn_X12_isFinite (h : mz_H) (j0 : Int64) : mz_Res Int32 :=
  if 0 ≤ (lg_cmp (j0 &&& 9223372036854775807) 9218868437227405312) then
    mz_chk ((0 : Int32) &&& 1 == 0) (mz_ret 0 h)
  else
    mz_chk ((1 : Int32) &&& 1 == 1) (mz_ret 1 h)
set_option maxHeartbeats 4000000 in
set_option maxRecDepth 100000 in
theorem pf_X12_isFinite_b0 (r : Int32) (Y : mz_Y p g RX12 cX12_isFinite 2 (some .boolean) "isFinite" (mz_AF h0) s m args meth c) (h : mz_H) (j0 : Int64) (dc ds : Nat) (hr : fn_X12_isFinite h j0 = some (r, hf, dc, ds)) : mz_Go l g p e s m args below meth c 0 0 DC DS h0 (some (Value.int r)) hf 2 0 [(0, true, .long j0)] [] h dc ds := by
  unfold fn_X12_isFinite at hr
  intro H locs cells slots ls hH hS hl hc hs
  have X := Y.1
  refine lv_lload_n X.1 X.2.1 dX12_isFinite_0 rfl (mz_at hl 0 rfl) ?_
  refine mz_ldc2 (v := 9223372036854775807) X (mz_tb 1303 (by decide +kernel) rfl) dX12_isFinite_1 ?_
  refine lv_land X.1 X.2.1 dX12_isFinite_4 ?_
  refine mz_ldc2 (v := 9218868437227405312) X (mz_tb 1304 (by decide +kernel) rfl) dX12_isFinite_5 ?_
  refine W.lcmp X.1 X.2.1 dX12_isFinite_8 ?_
  refine mz_if_ge X 16 dX12_isFinite_9 (by decide) hr (fun hr => ?_) (fun hr => ?_)
  · refine lv_iconst (v := 0) X.1 X.2.1 dX12_isFinite_16 (by decide) ?_
    exact mz_zret Y dX12_isFinite_17 hH hS hc hs hr
  · refine lv_iconst (v := 1) X.1 X.2.1 dX12_isFinite_12 (by decide) ?_
    refine lv_goto (tgt := 17) X.1 X.2.1 dX12_isFinite_13 (by decide) ?_
    exact mz_zret Y dX12_isFinite_17 hH hS hc hs hr
set_option maxRecDepth 100000 in
theorem ct_X12_isFinite (l : Launch) (g : mz_G) (h : mz_H) (j0 : Int64) (r : Int32) (hf : mz_H) (k n : Nat) (hr : fn_X12_isFinite h j0 = some (r, hf, k, n)) : mz_C l g yX12_isFinite cX12_isFinite 2 (some .boolean) 0 0 [.long j0] h (some (Value.int r)) hf k n := by
  refine mz_met (as := [(true, .long j0)]) (plainFor_of_name (by decide)) (mz_c1 rfl mz_c0) (Nat.le_of_ble_eq_true rfl) ?_
  intro p e s m args below meth c Y
  exact pf_X12_isFinite_b0 r Y h j0 _ _ hr
theorem dX12_ofFloat_0 : decode cX12_ofFloat 0 = .ok (.fload_n 0, 1) := by decide +kernel
theorem dX12_ofFloat_1 : decode cX12_ofFloat 1 = .ok (.f2d, 1) := by decide +kernel
theorem dX12_ofFloat_2 : decode cX12_ofFloat 2 = .ok (.invokestatic 241, 3) := by decide +kernel
theorem dX12_ofFloat_5 : decode cX12_ofFloat 5 = .ok (.lreturn, 1) := by decide +kernel
def fn_X12_ofFloat (h : mz_H) (f0 : UInt32) : mz_Res Int64 :=
  mz_chk (mz_n64 (FP.f2d f0)) <|
  mz_call (fn_J_d2l h (FP.f2d f0)) fun v1 h =>
  mz_ret v1 h
set_option maxHeartbeats 4000000 in
set_option maxRecDepth 100000 in
theorem pf_X12_ofFloat_b0 (r : Int64) (Y : mz_Y p g RX12 cX12_ofFloat 1 (some .long) "ofFloat" (mz_AF h0) s m args meth c) (h : mz_H) (f0 : UInt32) (dc ds : Nat) (hr : fn_X12_ofFloat h f0 = some (r, hf, dc, ds)) : mz_Go l g p e s m args below meth c 2 44 DC DS h0 (some (Value.long r)) hf 1 0 [(0, false, .float f0)] [] h dc ds := by
  unfold fn_X12_ofFloat at hr
  intro H locs cells slots ls hH hS hl hc hs
  have X := Y.1
  refine lv_fload_n X.1 X.2.1 dX12_ofFloat_0 rfl (mz_at hl 0 rfl) ?_
  refine mz_f2d X dX12_ofFloat_1 hr (fun hr => ?_)
  refine mz_kS Value.long X hH hS hl.1.1 [.double (FP.f2d f0)] [] hr (ct_J_d2l l g h (FP.f2d f0)) mb_RX12_241 im_J_d2l rfl (Nat.le_of_ble_eq_true rfl) ⟨Nat.le_of_ble_eq_true rfl, Nat.le_of_ble_eq_true rfl⟩ hc hs dX12_ofFloat_2 rfl (fun v1 h H locs cells slots dc ds hr hH hS hc hs => ?_)
  exact mz_lret Y dX12_ofFloat_5 hH hS hc hs hr
set_option maxRecDepth 100000 in
theorem ct_X12_ofFloat (l : Launch) (g : mz_G) (h : mz_H) (f0 : UInt32) (r : Int64) (hf : mz_H) (k n : Nat) (hr : fn_X12_ofFloat h f0 = some (r, hf, k, n)) : mz_C l g yX12_ofFloat cX12_ofFloat 1 (some .long) 2 44 [.float f0] h (some (Value.long r)) hf k n := by
  refine mz_met (as := [(false, .float f0)]) (plainFor_of_name (by decide)) (mz_c1 rfl mz_c0) (Nat.le_of_ble_eq_true rfl) ?_
  intro p e s m args below meth c Y
  exact pf_X12_ofFloat_b0 r Y h f0 _ _ hr
theorem dX12_comes_0 : decode cX12_comes 0 = .ok (.iload_n 0, 1) := by decide +kernel
theorem dX12_comes_1 : decode cX12_comes 1 = .ok (.tableswitch 101 0 6 #[43, 48, 53, 58, 62, 64, 86], 43) := by decide +kernel
theorem dX12_comes_44 : decode cX12_comes 44 = .ok (.lload_n 1, 1) := by decide +kernel
theorem dX12_comes_45 : decode cX12_comes 45 = .ok (.l2i, 1) := by decide +kernel
theorem dX12_comes_46 : decode cX12_comes 46 = .ok (.i2b, 1) := by decide +kernel
theorem dX12_comes_47 : decode cX12_comes 47 = .ok (.i2l, 1) := by decide +kernel
theorem dX12_comes_48 : decode cX12_comes 48 = .ok (.lreturn, 1) := by decide +kernel
theorem dX12_comes_49 : decode cX12_comes 49 = .ok (.lload_n 1, 1) := by decide +kernel
theorem dX12_comes_50 : decode cX12_comes 50 = .ok (.l2i, 1) := by decide +kernel
theorem dX12_comes_51 : decode cX12_comes 51 = .ok (.i2s, 1) := by decide +kernel
theorem dX12_comes_52 : decode cX12_comes 52 = .ok (.i2l, 1) := by decide +kernel
theorem dX12_comes_53 : decode cX12_comes 53 = .ok (.lreturn, 1) := by decide +kernel
theorem dX12_comes_54 : decode cX12_comes 54 = .ok (.lload_n 1, 1) := by decide +kernel
theorem dX12_comes_55 : decode cX12_comes 55 = .ok (.l2i, 1) := by decide +kernel
theorem dX12_comes_56 : decode cX12_comes 56 = .ok (.i2c, 1) := by decide +kernel
theorem dX12_comes_57 : decode cX12_comes 57 = .ok (.i2l, 1) := by decide +kernel
theorem dX12_comes_58 : decode cX12_comes 58 = .ok (.lreturn, 1) := by decide +kernel
theorem dX12_comes_59 : decode cX12_comes 59 = .ok (.lload_n 1, 1) := by decide +kernel
theorem dX12_comes_60 : decode cX12_comes 60 = .ok (.l2i, 1) := by decide +kernel
theorem dX12_comes_61 : decode cX12_comes 61 = .ok (.i2l, 1) := by decide +kernel
theorem dX12_comes_62 : decode cX12_comes 62 = .ok (.lreturn, 1) := by decide +kernel
theorem dX12_comes_63 : decode cX12_comes 63 = .ok (.lload_n 1, 1) := by decide +kernel
theorem dX12_comes_64 : decode cX12_comes 64 = .ok (.lreturn, 1) := by decide +kernel
theorem dX12_comes_65 : decode cX12_comes 65 = .ok (.lload_n 1, 1) := by decide +kernel
theorem dX12_comes_66 : decode cX12_comes 66 = .ok (.invokestatic 247, 3) := by decide +kernel
theorem dX12_comes_69 : decode cX12_comes 69 = .ok (.ifCond .eq 14, 3) := by decide +kernel
theorem dX12_comes_72 : decode cX12_comes 72 = .ok (.lload_n 1, 1) := by decide +kernel
theorem dX12_comes_73 : decode cX12_comes 73 = .ok (.invokestatic 251, 3) := by decide +kernel
theorem dX12_comes_76 : decode cX12_comes 76 = .ok (.d2f, 1) := by decide +kernel
theorem dX12_comes_77 : decode cX12_comes 77 = .ok (.invokestatic 255, 3) := by decide +kernel
theorem dX12_comes_80 : decode cX12_comes 80 = .ok (.goto 6, 3) := by decide +kernel
theorem dX12_comes_83 : decode cX12_comes 83 = .ok (.ldc2_w 259, 3) := by decide +kernel
theorem dX12_comes_86 : decode cX12_comes 86 = .ok (.lreturn, 1) := by decide +kernel
theorem dX12_comes_87 : decode cX12_comes 87 = .ok (.lload_n 1, 1) := by decide +kernel
theorem dX12_comes_88 : decode cX12_comes 88 = .ok (.invokestatic 247, 3) := by decide +kernel
theorem dX12_comes_91 : decode cX12_comes 91 = .ok (.ifCond .eq 7, 3) := by decide +kernel
theorem dX12_comes_94 : decode cX12_comes 94 = .ok (.lload_n 1, 1) := by decide +kernel
theorem dX12_comes_95 : decode cX12_comes 95 = .ok (.goto 6, 3) := by decide +kernel
theorem dX12_comes_98 : decode cX12_comes 98 = .ok (.ldc2_w 259, 3) := by decide +kernel
theorem dX12_comes_101 : decode cX12_comes 101 = .ok (.lreturn, 1) := by decide +kernel
theorem dX12_comes_102 : decode cX12_comes 102 = .ok (.lload_n 1, 1) := by decide +kernel
theorem dX12_comes_103 : decode cX12_comes 103 = .ok (.lconst 0, 1) := by decide +kernel
theorem dX12_comes_104 : decode cX12_comes 104 = .ok (.lcmp, 1) := by decide +kernel
theorem dX12_comes_105 : decode cX12_comes 105 = .ok (.ifCond .eq 7, 3) := by decide +kernel
theorem dX12_comes_108 : decode cX12_comes 108 = .ok (.lconst 1, 1) := by decide +kernel
theorem dX12_comes_109 : decode cX12_comes 109 = .ok (.goto 4, 3) := by decide +kernel
theorem dX12_comes_112 : decode cX12_comes 112 = .ok (.lconst 0, 1) := by decide +kernel
theorem dX12_comes_113 : decode cX12_comes 113 = .ok (.lreturn, 1) := by decide +kernel
def fn_X12_comes (h : mz_H) (x0 : Int32) (j1 : Int64) : mz_Res Int64 :=
  if x0 = 0 then
    mz_ret ((((((j1 : Int64).toInt32) : Int32).toInt8.toInt32) : Int32).toInt64) h
  else
  if x0 = 1 then
    mz_ret ((((((j1 : Int64).toInt32) : Int32).toInt16.toInt32) : Int32).toInt64) h
  else
  if x0 = 2 then
    mz_ret (((mz_i2c ((j1 : Int64).toInt32)) : Int32).toInt64) h
  else
  if x0 = 3 then
    mz_ret ((((j1 : Int64).toInt32) : Int32).toInt64) h
  else
  if x0 = 4 then
    mz_ret j1 h
  else
  if x0 = 5 then
    mz_call (fn_X12_isNumber h j1) fun v1 h =>
    if v1 = 0 then
      mz_ret 9221120237041090560 h
    else
      mz_chk (!vn_snl2d j1) <|
      mz_chk (mz_n32 (FP.d2f (Int64.toUInt64 j1))) <|
      mz_call (fn_X12_ofFloat h (FP.d2f (Int64.toUInt64 j1))) fun v2 h =>
      mz_ret v2 h
  else
  if x0 = 6 then
    mz_call (fn_X12_isNumber h j1) fun v3 h =>
    if v3 = 0 then
      mz_ret 9221120237041090560 h
    else
      mz_ret j1 h
  else
  if (lg_cmp j1 0) = 0 then
    mz_ret 0 h
  else
    mz_ret 1 h
set_option maxHeartbeats 4000000 in
set_option maxRecDepth 100000 in
theorem pf_X12_comes_b0 (r : Int64) (Y : mz_Y p g RX12 cX12_comes 3 (some .long) "comes" (mz_AF h0) s m args meth c) (h : mz_H) (x0 : Int32) (j1 : Int64) (dc ds : Nat) (hr : fn_X12_comes h x0 j1 = some (r, hf, dc, ds)) : mz_Go l g p e s m args below meth c 3 64 DC DS h0 (some (Value.long r)) hf 3 0 [(0, false, .int x0), (1, true, .long j1)] [] h dc ds := by
  unfold fn_X12_comes at hr
  intro H locs cells slots ls hH hS hl hc hs
  have X := Y.1
  refine lv_iload_n X.1 X.2.1 dX12_comes_0 rfl (mz_at hl 0 rfl) ?_
  by_cases q0 : x0 = 0
  · rw [if_pos q0] at hr
    refine mz_tin X dX12_comes_1 q0 44 (by decide) (by decide) rfl (by decide) ?_
    refine lv_lload_n X.1 X.2.1 dX12_comes_44 rfl (mz_at hl 1 rfl) ?_
    refine lv_l2i (v := ((j1 : Int64).toInt32)) X.1 X.2.1 dX12_comes_45 rfl ?_
    refine lv_i2b (v := ((((j1 : Int64).toInt32) : Int32).toInt8.toInt32)) X.1 X.2.1 dX12_comes_46 rfl ?_
    refine lv_i2l (v := ((((((j1 : Int64).toInt32) : Int32).toInt8.toInt32) : Int32).toInt64)) X.1 X.2.1 dX12_comes_47 rfl ?_
    exact mz_lret Y dX12_comes_48 hH hS hc hs hr
  rw [if_neg q0] at hr
  by_cases q1 : x0 = 1
  · rw [if_pos q1] at hr
    refine mz_tin X dX12_comes_1 q1 49 (by decide) (by decide) rfl (by decide) ?_
    refine lv_lload_n X.1 X.2.1 dX12_comes_49 rfl (mz_at hl 1 rfl) ?_
    refine lv_l2i (v := ((j1 : Int64).toInt32)) X.1 X.2.1 dX12_comes_50 rfl ?_
    refine lv_i2s (v := ((((j1 : Int64).toInt32) : Int32).toInt16.toInt32)) X.1 X.2.1 dX12_comes_51 rfl ?_
    refine lv_i2l (v := ((((((j1 : Int64).toInt32) : Int32).toInt16.toInt32) : Int32).toInt64)) X.1 X.2.1 dX12_comes_52 rfl ?_
    exact mz_lret Y dX12_comes_53 hH hS hc hs hr
  rw [if_neg q1] at hr
  by_cases q2 : x0 = 2
  · rw [if_pos q2] at hr
    refine mz_tin X dX12_comes_1 q2 54 (by decide) (by decide) rfl (by decide) ?_
    refine lv_lload_n X.1 X.2.1 dX12_comes_54 rfl (mz_at hl 1 rfl) ?_
    refine lv_l2i (v := ((j1 : Int64).toInt32)) X.1 X.2.1 dX12_comes_55 rfl ?_
    refine lv_i2c (v := (mz_i2c ((j1 : Int64).toInt32))) X.1 X.2.1 dX12_comes_56 rfl ?_
    refine lv_i2l (v := (((mz_i2c ((j1 : Int64).toInt32)) : Int32).toInt64)) X.1 X.2.1 dX12_comes_57 rfl ?_
    exact mz_lret Y dX12_comes_58 hH hS hc hs hr
  rw [if_neg q2] at hr
  by_cases q3 : x0 = 3
  · rw [if_pos q3] at hr
    refine mz_tin X dX12_comes_1 q3 59 (by decide) (by decide) rfl (by decide) ?_
    refine lv_lload_n X.1 X.2.1 dX12_comes_59 rfl (mz_at hl 1 rfl) ?_
    refine lv_l2i (v := ((j1 : Int64).toInt32)) X.1 X.2.1 dX12_comes_60 rfl ?_
    refine lv_i2l (v := ((((j1 : Int64).toInt32) : Int32).toInt64)) X.1 X.2.1 dX12_comes_61 rfl ?_
    exact mz_lret Y dX12_comes_62 hH hS hc hs hr
  rw [if_neg q3] at hr
  by_cases q4 : x0 = 4
  · rw [if_pos q4] at hr
    refine mz_tin X dX12_comes_1 q4 63 (by decide) (by decide) rfl (by decide) ?_
    refine lv_lload_n X.1 X.2.1 dX12_comes_63 rfl (mz_at hl 1 rfl) ?_
    exact mz_lret Y dX12_comes_64 hH hS hc hs hr
  rw [if_neg q4] at hr
  by_cases q5 : x0 = 5
  · rw [if_pos q5] at hr
    refine mz_tin X dX12_comes_1 q5 65 (by decide) (by decide) rfl (by decide) ?_
    refine lv_lload_n X.1 X.2.1 dX12_comes_65 rfl (mz_at hl 1 rfl) ?_
    refine mz_kS Value.int X hH hS hl.1.1 [.long j1] [] hr (ct_X12_isNumber l g h j1) mb_RX12_247 im_X12_isNumber rfl (Nat.le_of_ble_eq_true rfl) ⟨Nat.le_of_ble_eq_true rfl, Nat.le_of_ble_eq_true rfl⟩ hc hs dX12_comes_66 rfl (fun v1 h H locs cells slots dc ds hr hH hS hc hs => ?_)
    refine mz_if_eq X 83 dX12_comes_69 (by decide) hr (fun hr => ?_) (fun hr => ?_)
    · refine mz_ldc2 (v := 9221120237041090560) X (mz_tb 1321 (by decide +kernel) rfl) dX12_comes_83 ?_
      exact mz_lret Y dX12_comes_86 hH hS hc hs hr
    · refine lv_lload_n X.1 X.2.1 dX12_comes_72 rfl (mz_at hl 1 rfl) ?_
      refine mz_l2dN X hl.1.1 ⟨mz_tb 1305 (by decide +kernel) rfl, mz_tb 1307 (by decide +kernel) rfl, mz_tb 1306 (by decide +kernel) rfl, mz_tb 55 (by decide +kernel) rfl⟩ (Nat.le_of_ble_eq_true rfl) ⟨Nat.le_of_ble_eq_true rfl, Nat.le_of_ble_eq_true rfl⟩ dX12_comes_73 hr (fun hr => ?_)
      refine mz_d2f X dX12_comes_76 hr (fun hr => ?_)
      refine mz_kS Value.long X hH hS hl.1.1 [.float (FP.d2f (Int64.toUInt64 j1))] [] hr (ct_X12_ofFloat l g h (FP.d2f (Int64.toUInt64 j1))) mb_RX12_255 im_X12_ofFloat rfl (Nat.le_of_ble_eq_true rfl) ⟨Nat.le_of_ble_eq_true rfl, Nat.le_of_ble_eq_true rfl⟩ hc hs dX12_comes_77 rfl (fun v2 h H locs cells slots dc ds hr hH hS hc hs => ?_)
      refine lv_goto (tgt := 86) X.1 X.2.1 dX12_comes_80 (by decide) ?_
      exact mz_lret Y dX12_comes_86 hH hS hc hs hr
  rw [if_neg q5] at hr
  by_cases q6 : x0 = 6
  · rw [if_pos q6] at hr
    refine mz_tin X dX12_comes_1 q6 87 (by decide) (by decide) rfl (by decide) ?_
    refine lv_lload_n X.1 X.2.1 dX12_comes_87 rfl (mz_at hl 1 rfl) ?_
    refine mz_kS Value.int X hH hS hl.1.1 [.long j1] [] hr (ct_X12_isNumber l g h j1) mb_RX12_247 im_X12_isNumber rfl (Nat.le_of_ble_eq_true rfl) ⟨Nat.le_of_ble_eq_true rfl, Nat.le_of_ble_eq_true rfl⟩ hc hs dX12_comes_88 rfl (fun v3 h H locs cells slots dc ds hr hH hS hc hs => ?_)
    refine mz_if_eq X 98 dX12_comes_91 (by decide) hr (fun hr => ?_) (fun hr => ?_)
    · refine mz_ldc2 (v := 9221120237041090560) X (mz_tb 1321 (by decide +kernel) rfl) dX12_comes_98 ?_
      exact mz_lret Y dX12_comes_101 hH hS hc hs hr
    · refine lv_lload_n X.1 X.2.1 dX12_comes_94 rfl (mz_at hl 1 rfl) ?_
      refine lv_goto (tgt := 101) X.1 X.2.1 dX12_comes_95 (by decide) ?_
      exact mz_lret Y dX12_comes_101 hH hS hc hs hr
  rw [if_neg q6] at hr
  have kd : W p l e ({ frames := 3, cells := DC, slots := DS, locals := 64 }) s m args below meth c H locs cells slots (MQ below (mz_Q g h0 (some (Value.long r)) hf) args s DC DS (mz_AF h0)) (F0 m 102 ls []) := by
    refine lv_lload_n X.1 X.2.1 dX12_comes_102 rfl (mz_at hl 1 rfl) ?_
    refine lv_lconst (v := 0) X.1 X.2.1 dX12_comes_103 (by decide) ?_
    refine W.lcmp X.1 X.2.1 dX12_comes_104 ?_
    refine mz_if_eq X 112 dX12_comes_105 (by decide) hr (fun hr => ?_) (fun hr => ?_)
    · refine lv_lconst (v := 0) X.1 X.2.1 dX12_comes_112 (by decide) ?_
      exact mz_lret Y dX12_comes_113 hH hS hc hs hr
    · refine lv_lconst (v := 1) X.1 X.2.1 dX12_comes_108 (by decide) ?_
      refine lv_goto (tgt := 113) X.1 X.2.1 dX12_comes_109 (by decide) ?_
      exact mz_lret Y dX12_comes_113 hH hS hc hs hr
  have t0 : ¬ (x0 : Int32).toInt = 0 := fun z => q0 (mz_ti 0 (by decide) z)
  have t1 : ¬ (x0 : Int32).toInt = 1 := fun z => q1 (mz_ti 1 (by decide) z)
  have t2 : ¬ (x0 : Int32).toInt = 2 := fun z => q2 (mz_ti 2 (by decide) z)
  have t3 : ¬ (x0 : Int32).toInt = 3 := fun z => q3 (mz_ti 3 (by decide) z)
  have t4 : ¬ (x0 : Int32).toInt = 4 := fun z => q4 (mz_ti 4 (by decide) z)
  have t5 : ¬ (x0 : Int32).toInt = 5 := fun z => q5 (mz_ti 5 (by decide) z)
  have t6 : ¬ (x0 : Int32).toInt = 6 := fun z => q6 (mz_ti 6 (by decide) z)
  exact mz_tout X dX12_comes_1 102 (by omega) (by decide) kd
set_option maxRecDepth 100000 in
theorem ct_X12_comes (l : Launch) (g : mz_G) (h : mz_H) (x0 : Int32) (j1 : Int64) (r : Int64) (hf : mz_H) (k n : Nat) (hr : fn_X12_comes h x0 j1 = some (r, hf, k, n)) : mz_C l g yX12_comes cX12_comes 3 (some .long) 3 64 [.int x0, .long j1] h (some (Value.long r)) hf k n := by
  refine mz_met (as := [(false, .int x0), (true, .long j1)]) (plainFor_of_name (by decide)) (mz_c1 rfl (mz_c1 rfl mz_c0)) (Nat.le_of_ble_eq_true rfl) ?_
  intro p e s m args below meth c Y
  exact pf_X12_comes_b0 r Y h x0 j1 _ _ hr
theorem dX12_set_0 : decode cX12_set 0 = .ok (.aload_n 0, 1) := by decide +kernel
theorem dX12_set_1 : decode cX12_set 1 = .ok (.iconst 0, 1) := by decide +kernel
theorem dX12_set_2 : decode cX12_set 2 = .ok (.putfield 125, 3) := by decide +kernel
theorem dX12_set_5 : decode cX12_set 5 = .ok (.aload_n 0, 1) := by decide +kernel
theorem dX12_set_6 : decode cX12_set 6 = .ok (.iload_n 1, 1) := by decide +kernel
theorem dX12_set_7 : decode cX12_set 7 = .ok (.iload_n 2, 1) := by decide +kernel
theorem dX12_set_8 : decode cX12_set 8 = .ok (.invokevirtual 226, 3) := by decide +kernel
theorem dX12_set_11 : decode cX12_set 11 = .ok (.ifCond .ne 5, 3) := by decide +kernel
theorem dX12_set_14 : decode cX12_set 14 = .ok (.iconst (-1), 1) := by decide +kernel
theorem dX12_set_15 : decode cX12_set 15 = .ok (.ireturn, 1) := by decide +kernel
theorem dX12_set_16 : decode cX12_set 16 = .ok (.bipush 16, 2) := by decide +kernel
theorem dX12_set_18 : decode cX12_set 18 = .ok (.iload_n 1, 1) := by decide +kernel
theorem dX12_set_19 : decode cX12_set 19 = .ok (.imul, 1) := by decide +kernel
theorem dX12_set_20 : decode cX12_set 20 = .ok (.iload_n 2, 1) := by decide +kernel
theorem dX12_set_21 : decode cX12_set 21 = .ok (.iadd, 1) := by decide +kernel
theorem dX12_set_22 : decode cX12_set 22 = .ok (.istore 7, 2) := by decide +kernel
theorem dX12_set_24 : decode cX12_set 24 = .ok (.aload_n 0, 1) := by decide +kernel
theorem dX12_set_25 : decode cX12_set 25 = .ok (.getfield 84, 3) := by decide +kernel
theorem dX12_set_28 : decode cX12_set 28 = .ok (.iload 7, 2) := by decide +kernel
theorem dX12_set_30 : decode cX12_set 30 = .ok (.iaload, 1) := by decide +kernel
theorem dX12_set_31 : decode cX12_set 31 = .ok (.bipush 8, 2) := by decide +kernel
theorem dX12_set_33 : decode cX12_set 33 = .ok (.if_icmp .ne 6, 3) := by decide +kernel
theorem dX12_set_36 : decode cX12_set 36 = .ok (.bipush (-3), 2) := by decide +kernel
theorem dX12_set_38 : decode cX12_set 38 = .ok (.ireturn, 1) := by decide +kernel
theorem dX12_set_39 : decode cX12_set 39 = .ok (.aload_n 0, 1) := by decide +kernel
theorem dX12_set_40 : decode cX12_set 40 = .ok (.iload 7, 2) := by decide +kernel
theorem dX12_set_42 : decode cX12_set 42 = .ok (.iload_n 3, 1) := by decide +kernel
theorem dX12_set_43 : decode cX12_set 43 = .ok (.iload 4, 2) := by decide +kernel
theorem dX12_set_45 : decode cX12_set 45 = .ok (.invokevirtual 229, 3) := by decide +kernel
theorem dX12_set_48 : decode cX12_set 48 = .ok (.istore 8, 2) := by decide +kernel
theorem dX12_set_50 : decode cX12_set 50 = .ok (.iload 8, 2) := by decide +kernel
theorem dX12_set_52 : decode cX12_set 52 = .ok (.ifCond .ge 11, 3) := by decide +kernel
theorem dX12_set_55 : decode cX12_set 55 = .ok (.aload_n 0, 1) := by decide +kernel
theorem dX12_set_56 : decode cX12_set 56 = .ok (.iload 8, 2) := by decide +kernel
theorem dX12_set_58 : decode cX12_set 58 = .ok (.ineg, 1) := by decide +kernel
theorem dX12_set_59 : decode cX12_set 59 = .ok (.invokevirtual 131, 3) := by decide +kernel
theorem dX12_set_62 : decode cX12_set 62 = .ok (.ireturn, 1) := by decide +kernel
theorem dX12_set_63 : decode cX12_set 63 = .ok (.aload_n 0, 1) := by decide +kernel
theorem dX12_set_64 : decode cX12_set 64 = .ok (.getfield 106, 3) := by decide +kernel
theorem dX12_set_67 : decode cX12_set 67 = .ok (.iload 8, 2) := by decide +kernel
theorem dX12_set_69 : decode cX12_set 69 = .ok (.aload_n 0, 1) := by decide +kernel
theorem dX12_set_70 : decode cX12_set 70 = .ok (.getfield 84, 3) := by decide +kernel
theorem dX12_set_73 : decode cX12_set 73 = .ok (.iload 7, 2) := by decide +kernel
theorem dX12_set_75 : decode cX12_set 75 = .ok (.iaload, 1) := by decide +kernel
theorem dX12_set_76 : decode cX12_set 76 = .ok (.lload 5, 2) := by decide +kernel
theorem dX12_set_78 : decode cX12_set 78 = .ok (.invokestatic 261, 3) := by decide +kernel
theorem dX12_set_81 : decode cX12_set 81 = .ok (.lastore, 1) := by decide +kernel
theorem dX12_set_82 : decode cX12_set 82 = .ok (.iconst 1, 1) := by decide +kernel
theorem dX12_set_83 : decode cX12_set 83 = .ok (.ireturn, 1) := by decide +kernel
def fn_X12_set (h : mz_H) (a0 : (Option Nat)) (x1 : Int32) (x2 : Int32) (x3 : Int32) (x4 : Int32) (j5 : Int64) : mz_Res Int32 :=
  mz_op (mz_pF h a0 11 0 (Value.int 0)) fun h =>
  mz_chk (mz_is h a0 11) <| mz_call (fn_X12_isSlot h a0 x1 x2) fun v1 h =>
  if v1 = 0 then
    mz_ret (-1) h
  else
    mz_op (some ((16 * x1) + x2)) fun v2 =>
    mz_op (mz_fR h a0 11 36) fun v3 =>
    mz_op (mz_aI h v3 0 v2) fun v4 =>
    if v4 = 8 then
      mz_ret (-3) h
    else
      mz_chk (mz_is h a0 11) <| mz_call (fn_X12_placeOf h a0 v2 x3 x4) fun v5 h =>
      if 0 ≤ v5 then
        mz_op (mz_fR h a0 11 43) fun v6 =>
        mz_op (mz_fR h a0 11 36) fun v7 =>
        mz_op (mz_aI h v7 0 v2) fun v8 =>
        mz_call (fn_X12_comes h v8 j5) fun v9 h =>
        mz_op (mz_sJ h v6 v5 v9) fun h =>
        mz_ret 1 h
      else
        mz_chk (mz_is h a0 11) <| mz_call (fn_X12_fails h a0 (-v5)) fun v10 h =>
        mz_ret v10 h
set_option maxHeartbeats 4000000 in
set_option maxRecDepth 100000 in
theorem pf_X12_set_b0 (r : Int32) (Y : mz_Y p g RX12 cX12_set 9 (some .int) "set" (mz_AF h0) s m args meth c) (h : mz_H) (a0 : (Option Nat)) (x1 : Int32) (x2 : Int32) (x3 : Int32) (x4 : Int32) (j5 : Int64) (dc ds : Nat) (hr : fn_X12_set h a0 x1 x2 x3 x4 j5 = some (r, hf, dc, ds)) : mz_Go l g p e s m args below meth c 4 86 DC DS h0 (some (Value.int r)) hf 9 0 [(0, false, va_rf a0), (1, false, .int x1), (2, false, .int x2), (3, false, .int x3), (4, false, .int x4), (5, true, .long j5)] [] h dc ds := by
  unfold fn_X12_set at hr
  intro H locs cells slots ls hH hS hl hc hs
  have X := Y.1
  refine mz_aload_n X dX12_set_0 rfl (mz_at hl 0 rfl) ?_
  refine lv_iconst (v := 0) X.1 X.2.1 dX12_set_1 (by decide) ?_
  refine mz_put X hH hS fp_RX12_125 dX12_set_2 rfl rfl hr (fun h H locs hr hH hS => ?_)
  refine mz_aload_n X dX12_set_5 rfl (mz_at hl 0 rfl) ?_
  refine lv_iload_n X.1 X.2.1 dX12_set_6 rfl (mz_at hl 1 rfl) ?_
  refine lv_iload_n X.1 X.2.1 dX12_set_7 rfl (mz_at hl 2 rfl) ?_
  refine mz_kV Value.int X hH hS hl.1.1 [.int x1, .int x2] [] hr (ct_X12_isSlot l g h a0 x1 x2) mb_RX12_226 rfl im_X12_isSlot rfl (Nat.le_of_ble_eq_true rfl) ⟨Nat.le_of_ble_eq_true rfl, Nat.le_of_ble_eq_true rfl⟩ hc hs dX12_set_8 rfl (fun v1 h H locs cells slots dc ds hr hH hS hc hs => ?_)
  refine mz_if_ne X 16 dX12_set_11 (by decide) hr (fun hr => ?_) (fun hr => ?_)
  · refine lv_bipush (v := 16) X.1 X.2.1 dX12_set_16 (by decide) ?_
    refine lv_iload_n X.1 X.2.1 dX12_set_18 rfl (mz_at hl 1 rfl) ?_
    refine lv_imul X.1 X.2.1 dX12_set_19 ?_
    refine lv_iload_n X.1 X.2.1 dX12_set_20 rfl (mz_at hl 2 rfl) ?_
    refine lv_iadd X.1 X.2.1 dX12_set_21 ?_
    refine mz_topi hr (fun v2 hv2 hr => ?_)
    refine mz_istore X [(7, false, .int v2), (0, false, va_rf a0), (1, false, .int x1), (2, false, .int x2), (3, false, .int x3), (4, false, .int x4), (5, true, .long j5)] dX12_set_22 hl (by decide) rfl (fun ls hl => ?_)
    refine mz_aload_n X dX12_set_24 rfl (mz_at hl 1 rfl) ?_
    refine mz_getR X hH fl_RX12_84 dX12_set_25 hr (fun v3 hr => ?_)
    refine lv_iload X.1 X.2.1 dX12_set_28 (mz_at hl 0 rfl) ?_
    refine mz_iald X hH dX12_set_30 hr (fun v4 hr => ?_)
    refine lv_bipush (v := 8) X.1 X.2.1 dX12_set_31 (by decide) ?_
    refine mz_icmp_ne X 39 dX12_set_33 (by decide) hr (fun hr => ?_) (fun hr => ?_)
    · refine mz_aload_n X dX12_set_39 rfl (mz_at hl 1 rfl) ?_
      refine lv_iload X.1 X.2.1 dX12_set_40 (mz_at hl 0 rfl) ?_
      refine lv_iload_n X.1 X.2.1 dX12_set_42 rfl (mz_at hl 4 rfl) ?_
      refine lv_iload X.1 X.2.1 dX12_set_43 (mz_at hl 5 rfl) ?_
      refine mz_kV Value.int X hH hS hl.1.1 [.int v2, .int x3, .int x4] [] hr (ct_X12_placeOf l g h a0 v2 x3 x4) mb_RX12_229 rfl im_X12_placeOf rfl (Nat.le_of_ble_eq_true rfl) ⟨Nat.le_of_ble_eq_true rfl, Nat.le_of_ble_eq_true rfl⟩ hc hs dX12_set_45 rfl (fun v5 h H locs cells slots dc ds hr hH hS hc hs => ?_)
      refine mz_istore X [(8, false, .int v5), (7, false, .int v2), (0, false, va_rf a0), (1, false, .int x1), (2, false, .int x2), (3, false, .int x3), (4, false, .int x4), (5, true, .long j5)] dX12_set_48 hl (by decide) rfl (fun ls hl => ?_)
      refine lv_iload X.1 X.2.1 dX12_set_50 (mz_at hl 0 rfl) ?_
      refine mz_if_ge X 63 dX12_set_52 (by decide) hr (fun hr => ?_) (fun hr => ?_)
      · refine mz_aload_n X dX12_set_63 rfl (mz_at hl 2 rfl) ?_
        refine mz_getR X hH fl_RX12_106 dX12_set_64 hr (fun v6 hr => ?_)
        refine lv_iload X.1 X.2.1 dX12_set_67 (mz_at hl 0 rfl) ?_
        refine mz_aload_n X dX12_set_69 rfl (mz_at hl 2 rfl) ?_
        refine mz_getR X hH fl_RX12_84 dX12_set_70 hr (fun v7 hr => ?_)
        refine lv_iload X.1 X.2.1 dX12_set_73 (mz_at hl 1 rfl) ?_
        refine mz_iald X hH dX12_set_75 hr (fun v8 hr => ?_)
        refine lv_lload X.1 X.2.1 dX12_set_76 (mz_at hl 7 rfl) ?_
        refine mz_kS Value.long X hH hS hl.1.1 [.int v8, .long j5] [.int v5, va_rf v6] hr (ct_X12_comes l g h v8 j5) mb_RX12_261 im_X12_comes rfl (Nat.le_of_ble_eq_true rfl) ⟨Nat.le_of_ble_eq_true rfl, Nat.le_of_ble_eq_true rfl⟩ hc hs dX12_set_78 rfl (fun v9 h H locs cells slots dc ds hr hH hS hc hs => ?_)
        refine mz_last X hH hS dX12_set_81 hr (fun h H locs hr hH hS => ?_)
        refine lv_iconst (v := 1) X.1 X.2.1 dX12_set_82 (by decide) ?_
        exact mz_iret Y dX12_set_83 hH hS hc hs hr
      · refine mz_aload_n X dX12_set_55 rfl (mz_at hl 2 rfl) ?_
        refine lv_iload X.1 X.2.1 dX12_set_56 (mz_at hl 0 rfl) ?_
        refine lv_ineg X.1 X.2.1 dX12_set_58 ?_
        refine mz_kV Value.int X hH hS hl.1.1 [.int (-v5)] [] hr (ct_X12_fails l g h a0 (-v5)) mb_RX12_131 rfl im_X12_fails rfl (Nat.le_of_ble_eq_true rfl) ⟨Nat.le_of_ble_eq_true rfl, Nat.le_of_ble_eq_true rfl⟩ hc hs dX12_set_59 rfl (fun v10 h H locs cells slots dc ds hr hH hS hc hs => ?_)
        exact mz_iret Y dX12_set_62 hH hS hc hs hr
    · refine lv_bipush (v := (-3)) X.1 X.2.1 dX12_set_36 (by decide) ?_
      exact mz_iret Y dX12_set_38 hH hS hc hs hr
  · refine lv_iconst (v := (-1)) X.1 X.2.1 dX12_set_14 (by decide) ?_
    exact mz_iret Y dX12_set_15 hH hS hc hs hr
set_option maxRecDepth 100000 in
theorem ct_X12_set (l : Launch) (g : mz_G) (h : mz_H) (a0 : (Option Nat)) (x1 : Int32) (x2 : Int32) (x3 : Int32) (x4 : Int32) (j5 : Int64) (r : Int32) (hf : mz_H) (k n : Nat) (hr : fn_X12_set h a0 x1 x2 x3 x4 j5 = some (r, hf, k, n)) : mz_C l g yX12_set cX12_set 9 (some .int) 4 86 [va_rf a0, .int x1, .int x2, .int x3, .int x4, .long j5] h (some (Value.int r)) hf k n := by
  refine mz_met (as := [(false, va_rf a0), (false, .int x1), (false, .int x2), (false, .int x3), (false, .int x4), (true, .long j5)]) (plainFor_of_name (by decide)) (mz_c1 (mz_cat_rf _) (mz_c1 rfl (mz_c1 rfl (mz_c1 rfl (mz_c1 rfl (mz_c1 rfl mz_c0)))))) (Nat.le_of_ble_eq_true rfl) ?_
  intro p e s m args below meth c Y
  exact pf_X12_set_b0 r Y h a0 x1 x2 x3 x4 j5 _ _ hr
theorem dX12_link_0 : decode cX12_link 0 = .ok (.aload_n 0, 1) := by decide +kernel
theorem dX12_link_1 : decode cX12_link 1 = .ok (.iconst 0, 1) := by decide +kernel
theorem dX12_link_2 : decode cX12_link 2 = .ok (.putfield 125, 3) := by decide +kernel
theorem dX12_link_5 : decode cX12_link 5 = .ok (.aload_n 0, 1) := by decide +kernel
theorem dX12_link_6 : decode cX12_link 6 = .ok (.iload_n 1, 1) := by decide +kernel
theorem dX12_link_7 : decode cX12_link 7 = .ok (.iload_n 2, 1) := by decide +kernel
theorem dX12_link_8 : decode cX12_link 8 = .ok (.invokevirtual 226, 3) := by decide +kernel
theorem dX12_link_11 : decode cX12_link 11 = .ok (.ifCond .eq 19, 3) := by decide +kernel
theorem dX12_link_14 : decode cX12_link 14 = .ok (.iload 5, 2) := by decide +kernel
theorem dX12_link_16 : decode cX12_link 16 = .ok (.bipush (-9), 2) := by decide +kernel
theorem dX12_link_18 : decode cX12_link 18 = .ok (.if_icmp .eq 14, 3) := by decide +kernel
theorem dX12_link_21 : decode cX12_link 21 = .ok (.aload_n 0, 1) := by decide +kernel
theorem dX12_link_22 : decode cX12_link 22 = .ok (.iload 5, 2) := by decide +kernel
theorem dX12_link_24 : decode cX12_link 24 = .ok (.invokevirtual 214, 3) := by decide +kernel
theorem dX12_link_27 : decode cX12_link 27 = .ok (.ifCond .ne 5, 3) := by decide +kernel
theorem dX12_link_30 : decode cX12_link 30 = .ok (.iconst (-1), 1) := by decide +kernel
theorem dX12_link_31 : decode cX12_link 31 = .ok (.ireturn, 1) := by decide +kernel
theorem dX12_link_32 : decode cX12_link 32 = .ok (.bipush 16, 2) := by decide +kernel
theorem dX12_link_34 : decode cX12_link 34 = .ok (.iload_n 1, 1) := by decide +kernel
theorem dX12_link_35 : decode cX12_link 35 = .ok (.imul, 1) := by decide +kernel
theorem dX12_link_36 : decode cX12_link 36 = .ok (.iload_n 2, 1) := by decide +kernel
theorem dX12_link_37 : decode cX12_link 37 = .ok (.iadd, 1) := by decide +kernel
theorem dX12_link_38 : decode cX12_link 38 = .ok (.istore 6, 2) := by decide +kernel
theorem dX12_link_40 : decode cX12_link 40 = .ok (.aload_n 0, 1) := by decide +kernel
theorem dX12_link_41 : decode cX12_link 41 = .ok (.getfield 84, 3) := by decide +kernel
theorem dX12_link_44 : decode cX12_link 44 = .ok (.iload 6, 2) := by decide +kernel
theorem dX12_link_46 : decode cX12_link 46 = .ok (.iaload, 1) := by decide +kernel
theorem dX12_link_47 : decode cX12_link 47 = .ok (.bipush 8, 2) := by decide +kernel
theorem dX12_link_49 : decode cX12_link 49 = .ok (.if_icmp .eq 6, 3) := by decide +kernel
theorem dX12_link_52 : decode cX12_link 52 = .ok (.bipush (-3), 2) := by decide +kernel
theorem dX12_link_54 : decode cX12_link 54 = .ok (.ireturn, 1) := by decide +kernel
theorem dX12_link_55 : decode cX12_link 55 = .ok (.aload_n 0, 1) := by decide +kernel
theorem dX12_link_56 : decode cX12_link 56 = .ok (.iload 6, 2) := by decide +kernel
theorem dX12_link_58 : decode cX12_link 58 = .ok (.iload_n 3, 1) := by decide +kernel
theorem dX12_link_59 : decode cX12_link 59 = .ok (.iload 4, 2) := by decide +kernel
theorem dX12_link_61 : decode cX12_link 61 = .ok (.invokevirtual 229, 3) := by decide +kernel
theorem dX12_link_64 : decode cX12_link 64 = .ok (.istore 7, 2) := by decide +kernel
theorem dX12_link_66 : decode cX12_link 66 = .ok (.iload 7, 2) := by decide +kernel
theorem dX12_link_68 : decode cX12_link 68 = .ok (.ifCond .ge 11, 3) := by decide +kernel
theorem dX12_link_71 : decode cX12_link 71 = .ok (.aload_n 0, 1) := by decide +kernel
theorem dX12_link_72 : decode cX12_link 72 = .ok (.iload 7, 2) := by decide +kernel
theorem dX12_link_74 : decode cX12_link 74 = .ok (.ineg, 1) := by decide +kernel
theorem dX12_link_75 : decode cX12_link 75 = .ok (.invokevirtual 131, 3) := by decide +kernel
theorem dX12_link_78 : decode cX12_link 78 = .ok (.ireturn, 1) := by decide +kernel
theorem dX12_link_79 : decode cX12_link 79 = .ok (.aload_n 0, 1) := by decide +kernel
theorem dX12_link_80 : decode cX12_link 80 = .ok (.getfield 106, 3) := by decide +kernel
theorem dX12_link_83 : decode cX12_link 83 = .ok (.iload 7, 2) := by decide +kernel
theorem dX12_link_85 : decode cX12_link 85 = .ok (.iload 5, 2) := by decide +kernel
theorem dX12_link_87 : decode cX12_link 87 = .ok (.i2l, 1) := by decide +kernel
theorem dX12_link_88 : decode cX12_link 88 = .ok (.lastore, 1) := by decide +kernel
theorem dX12_link_89 : decode cX12_link 89 = .ok (.iconst 1, 1) := by decide +kernel
theorem dX12_link_90 : decode cX12_link 90 = .ok (.ireturn, 1) := by decide +kernel
def fn_X12_link_b32 (h : mz_H) (a0 : (Option Nat)) (x1 : Int32) (x2 : Int32) (x3 : Int32) (x4 : Int32) (x5 : Int32) : mz_Res Int32 :=
  mz_op (some ((16 * x1) + x2)) fun v1 =>
  mz_op (mz_fR h a0 11 36) fun v2 =>
  mz_op (mz_aI h v2 0 v1) fun v3 =>
  if v3 = 8 then
    mz_chk (mz_is h a0 11) <| mz_call (fn_X12_placeOf h a0 v1 x3 x4) fun v4 h =>
    if 0 ≤ v4 then
      mz_op (mz_fR h a0 11 43) fun v5 =>
      mz_op (mz_sJ h v5 v4 ((x5 : Int32).toInt64)) fun h =>
      mz_ret 1 h
    else
      mz_chk (mz_is h a0 11) <| mz_call (fn_X12_fails h a0 (-v4)) fun v6 h =>
      mz_ret v6 h
  else
    mz_ret (-3) h
set_option maxHeartbeats 4000000 in
set_option maxRecDepth 100000 in
theorem pf_X12_link_b32 (r : Int32) (Y : mz_Y p g RX12 cX12_link 8 (some .int) "link" (mz_AF h0) s m args meth c) (h : mz_H) (a0 : (Option Nat)) (x1 : Int32) (x2 : Int32) (x3 : Int32) (x4 : Int32) (x5 : Int32) (dc ds : Nat) (hr : fn_X12_link_b32 h a0 x1 x2 x3 x4 x5 = some (r, hf, dc, ds)) : mz_Go l g p e s m args below meth c 2 43 DC DS h0 (some (Value.int r)) hf 8 32 [(0, false, va_rf a0), (1, false, .int x1), (2, false, .int x2), (3, false, .int x3), (4, false, .int x4), (5, false, .int x5)] [] h dc ds := by
  unfold fn_X12_link_b32 at hr
  intro H locs cells slots ls hH hS hl hc hs
  have X := Y.1
  refine lv_bipush (v := 16) X.1 X.2.1 dX12_link_32 (by decide) ?_
  refine lv_iload_n X.1 X.2.1 dX12_link_34 rfl (mz_at hl 1 rfl) ?_
  refine lv_imul X.1 X.2.1 dX12_link_35 ?_
  refine lv_iload_n X.1 X.2.1 dX12_link_36 rfl (mz_at hl 2 rfl) ?_
  refine lv_iadd X.1 X.2.1 dX12_link_37 ?_
  refine mz_topi hr (fun v1 hv1 hr => ?_)
  refine mz_istore X [(6, false, .int v1), (0, false, va_rf a0), (1, false, .int x1), (2, false, .int x2), (3, false, .int x3), (4, false, .int x4), (5, false, .int x5)] dX12_link_38 hl (by decide) rfl (fun ls hl => ?_)
  refine mz_aload_n X dX12_link_40 rfl (mz_at hl 1 rfl) ?_
  refine mz_getR X hH fl_RX12_84 dX12_link_41 hr (fun v2 hr => ?_)
  refine lv_iload X.1 X.2.1 dX12_link_44 (mz_at hl 0 rfl) ?_
  refine mz_iald X hH dX12_link_46 hr (fun v3 hr => ?_)
  refine lv_bipush (v := 8) X.1 X.2.1 dX12_link_47 (by decide) ?_
  refine mz_icmp_eq X 55 dX12_link_49 (by decide) hr (fun hr => ?_) (fun hr => ?_)
  · refine mz_aload_n X dX12_link_55 rfl (mz_at hl 1 rfl) ?_
    refine lv_iload X.1 X.2.1 dX12_link_56 (mz_at hl 0 rfl) ?_
    refine lv_iload_n X.1 X.2.1 dX12_link_58 rfl (mz_at hl 4 rfl) ?_
    refine lv_iload X.1 X.2.1 dX12_link_59 (mz_at hl 5 rfl) ?_
    refine mz_kV Value.int X hH hS hl.1.1 [.int v1, .int x3, .int x4] [] hr (ct_X12_placeOf l g h a0 v1 x3 x4) mb_RX12_229 rfl im_X12_placeOf rfl (Nat.le_of_ble_eq_true rfl) ⟨Nat.le_of_ble_eq_true rfl, Nat.le_of_ble_eq_true rfl⟩ hc hs dX12_link_61 rfl (fun v4 h H locs cells slots dc ds hr hH hS hc hs => ?_)
    refine mz_istore X [(7, false, .int v4), (6, false, .int v1), (0, false, va_rf a0), (1, false, .int x1), (2, false, .int x2), (3, false, .int x3), (4, false, .int x4), (5, false, .int x5)] dX12_link_64 hl (by decide) rfl (fun ls hl => ?_)
    refine lv_iload X.1 X.2.1 dX12_link_66 (mz_at hl 0 rfl) ?_
    refine mz_if_ge X 79 dX12_link_68 (by decide) hr (fun hr => ?_) (fun hr => ?_)
    · refine mz_aload_n X dX12_link_79 rfl (mz_at hl 2 rfl) ?_
      refine mz_getR X hH fl_RX12_106 dX12_link_80 hr (fun v5 hr => ?_)
      refine lv_iload X.1 X.2.1 dX12_link_83 (mz_at hl 0 rfl) ?_
      refine lv_iload X.1 X.2.1 dX12_link_85 (mz_at hl 7 rfl) ?_
      refine lv_i2l (v := ((x5 : Int32).toInt64)) X.1 X.2.1 dX12_link_87 rfl ?_
      refine mz_last X hH hS dX12_link_88 hr (fun h H locs hr hH hS => ?_)
      refine lv_iconst (v := 1) X.1 X.2.1 dX12_link_89 (by decide) ?_
      exact mz_iret Y dX12_link_90 hH hS hc hs hr
    · refine mz_aload_n X dX12_link_71 rfl (mz_at hl 2 rfl) ?_
      refine lv_iload X.1 X.2.1 dX12_link_72 (mz_at hl 0 rfl) ?_
      refine lv_ineg X.1 X.2.1 dX12_link_74 ?_
      refine mz_kV Value.int X hH hS hl.1.1 [.int (-v4)] [] hr (ct_X12_fails l g h a0 (-v4)) mb_RX12_131 rfl im_X12_fails rfl (Nat.le_of_ble_eq_true rfl) ⟨Nat.le_of_ble_eq_true rfl, Nat.le_of_ble_eq_true rfl⟩ hc hs dX12_link_75 rfl (fun v6 h H locs cells slots dc ds hr hH hS hc hs => ?_)
      exact mz_iret Y dX12_link_78 hH hS hc hs hr
  · refine lv_bipush (v := (-3)) X.1 X.2.1 dX12_link_52 (by decide) ?_
    exact mz_iret Y dX12_link_54 hH hS hc hs hr
def fn_X12_link (h : mz_H) (a0 : (Option Nat)) (x1 : Int32) (x2 : Int32) (x3 : Int32) (x4 : Int32) (x5 : Int32) : mz_Res Int32 :=
  mz_op (mz_pF h a0 11 0 (Value.int 0)) fun h =>
  mz_chk (mz_is h a0 11) <| mz_call (fn_X12_isSlot h a0 x1 x2) fun v1 h =>
  if v1 = 0 then
    mz_ret (-1) h
  else
    if x5 = (-9) then
      fn_X12_link_b32 h a0 x1 x2 x3 x4 x5
    else
      mz_chk (mz_is h a0 11) <| mz_call (fn_X12_isObject h a0 x5) fun v2 h =>
      if v2 = 0 then
        mz_ret (-1) h
      else
        fn_X12_link_b32 h a0 x1 x2 x3 x4 x5
set_option maxHeartbeats 4000000 in
set_option maxRecDepth 100000 in
theorem pf_X12_link_b0 (r : Int32) (Y : mz_Y p g RX12 cX12_link 8 (some .int) "link" (mz_AF h0) s m args meth c) (h : mz_H) (a0 : (Option Nat)) (x1 : Int32) (x2 : Int32) (x3 : Int32) (x4 : Int32) (x5 : Int32) (dc ds : Nat) (hr : fn_X12_link h a0 x1 x2 x3 x4 x5 = some (r, hf, dc, ds)) : mz_Go l g p e s m args below meth c 2 43 DC DS h0 (some (Value.int r)) hf 8 0 [(0, false, va_rf a0), (1, false, .int x1), (2, false, .int x2), (3, false, .int x3), (4, false, .int x4), (5, false, .int x5)] [] h dc ds := by
  unfold fn_X12_link at hr
  intro H locs cells slots ls hH hS hl hc hs
  have X := Y.1
  refine mz_aload_n X dX12_link_0 rfl (mz_at hl 0 rfl) ?_
  refine lv_iconst (v := 0) X.1 X.2.1 dX12_link_1 (by decide) ?_
  refine mz_put X hH hS fp_RX12_125 dX12_link_2 rfl rfl hr (fun h H locs hr hH hS => ?_)
  refine mz_aload_n X dX12_link_5 rfl (mz_at hl 0 rfl) ?_
  refine lv_iload_n X.1 X.2.1 dX12_link_6 rfl (mz_at hl 1 rfl) ?_
  refine lv_iload_n X.1 X.2.1 dX12_link_7 rfl (mz_at hl 2 rfl) ?_
  refine mz_kV Value.int X hH hS hl.1.1 [.int x1, .int x2] [] hr (ct_X12_isSlot l g h a0 x1 x2) mb_RX12_226 rfl im_X12_isSlot rfl (Nat.le_of_ble_eq_true rfl) ⟨Nat.le_of_ble_eq_true rfl, Nat.le_of_ble_eq_true rfl⟩ hc hs dX12_link_8 rfl (fun v1 h H locs cells slots dc ds hr hH hS hc hs => ?_)
  refine mz_if_eq X 30 dX12_link_11 (by decide) hr (fun hr => ?_) (fun hr => ?_)
  · refine lv_iconst (v := (-1)) X.1 X.2.1 dX12_link_30 (by decide) ?_
    exact mz_iret Y dX12_link_31 hH hS hc hs hr
  · refine lv_iload X.1 X.2.1 dX12_link_14 (mz_at hl 5 rfl) ?_
    refine lv_bipush (v := (-9)) X.1 X.2.1 dX12_link_16 (by decide) ?_
    refine mz_icmp_eq X 32 dX12_link_18 (by decide) hr (fun hr => ?_) (fun hr => ?_)
    · exact pf_X12_link_b32 r Y h a0 x1 x2 x3 x4 x5 _ _ hr H locs cells slots ls hH hS (mz_sub hl [0, 1, 2, 3, 4, 5] rfl) hc hs
    · refine mz_aload_n X dX12_link_21 rfl (mz_at hl 0 rfl) ?_
      refine lv_iload X.1 X.2.1 dX12_link_22 (mz_at hl 5 rfl) ?_
      refine mz_kV Value.int X hH hS hl.1.1 [.int x5] [] hr (ct_X12_isObject l g h a0 x5) mb_RX12_214 rfl im_X12_isObject rfl (Nat.le_of_ble_eq_true rfl) ⟨Nat.le_of_ble_eq_true rfl, Nat.le_of_ble_eq_true rfl⟩ hc hs dX12_link_24 rfl (fun v2 h H locs cells slots dc ds hr hH hS hc hs => ?_)
      refine mz_if_ne X 32 dX12_link_27 (by decide) hr (fun hr => ?_) (fun hr => ?_)
      · exact pf_X12_link_b32 r Y h a0 x1 x2 x3 x4 x5 _ _ hr H locs cells slots ls hH hS (mz_sub hl [0, 1, 2, 3, 4, 5] rfl) hc hs
      · refine lv_iconst (v := (-1)) X.1 X.2.1 dX12_link_30 (by decide) ?_
        exact mz_iret Y dX12_link_31 hH hS hc hs hr
set_option maxRecDepth 100000 in
theorem ct_X12_link (l : Launch) (g : mz_G) (h : mz_H) (a0 : (Option Nat)) (x1 : Int32) (x2 : Int32) (x3 : Int32) (x4 : Int32) (x5 : Int32) (r : Int32) (hf : mz_H) (k n : Nat) (hr : fn_X12_link h a0 x1 x2 x3 x4 x5 = some (r, hf, k, n)) : mz_C l g yX12_link cX12_link 8 (some .int) 2 43 [va_rf a0, .int x1, .int x2, .int x3, .int x4, .int x5] h (some (Value.int r)) hf k n := by
  refine mz_met (as := [(false, va_rf a0), (false, .int x1), (false, .int x2), (false, .int x3), (false, .int x4), (false, .int x5)]) (plainFor_of_name (by decide)) (mz_c1 (mz_cat_rf _) (mz_c1 rfl (mz_c1 rfl (mz_c1 rfl (mz_c1 rfl (mz_c1 rfl mz_c0)))))) (Nat.le_of_ble_eq_true rfl) ?_
  intro p e s m args below meth c Y
  exact pf_X12_link_b0 r Y h a0 x1 x2 x3 x4 x5 _ _ hr
theorem dX12_as_0 : decode cX12_as 0 = .ok (.aload_n 0, 1) := by decide +kernel
theorem dX12_as_1 : decode cX12_as 1 = .ok (.iconst 0, 1) := by decide +kernel
theorem dX12_as_2 : decode cX12_as 2 = .ok (.putfield 125, 3) := by decide +kernel
theorem dX12_as_5 : decode cX12_as 5 = .ok (.aload_n 0, 1) := by decide +kernel
theorem dX12_as_6 : decode cX12_as 6 = .ok (.iload_n 1, 1) := by decide +kernel
theorem dX12_as_7 : decode cX12_as 7 = .ok (.iload_n 2, 1) := by decide +kernel
theorem dX12_as_8 : decode cX12_as 8 = .ok (.invokevirtual 226, 3) := by decide +kernel
theorem dX12_as_11 : decode cX12_as 11 = .ok (.ifCond .eq 14, 3) := by decide +kernel
theorem dX12_as_14 : decode cX12_as 14 = .ok (.iload 4, 2) := by decide +kernel
theorem dX12_as_16 : decode cX12_as 16 = .ok (.iconst 0, 1) := by decide +kernel
theorem dX12_as_17 : decode cX12_as 17 = .ok (.bipush 8, 2) := by decide +kernel
theorem dX12_as_19 : decode cX12_as 19 = .ok (.invokestatic 142, 3) := by decide +kernel
theorem dX12_as_22 : decode cX12_as 22 = .ok (.ifCond .ne 5, 3) := by decide +kernel
theorem dX12_as_25 : decode cX12_as 25 = .ok (.lconst 0, 1) := by decide +kernel
theorem dX12_as_26 : decode cX12_as 26 = .ok (.lreturn, 1) := by decide +kernel
theorem dX12_as_27 : decode cX12_as 27 = .ok (.bipush 16, 2) := by decide +kernel
theorem dX12_as_29 : decode cX12_as 29 = .ok (.iload_n 1, 1) := by decide +kernel
theorem dX12_as_30 : decode cX12_as 30 = .ok (.imul, 1) := by decide +kernel
theorem dX12_as_31 : decode cX12_as 31 = .ok (.iload_n 2, 1) := by decide +kernel
theorem dX12_as_32 : decode cX12_as 32 = .ok (.iadd, 1) := by decide +kernel
theorem dX12_as_33 : decode cX12_as 33 = .ok (.istore 5, 2) := by decide +kernel
theorem dX12_as_35 : decode cX12_as 35 = .ok (.aload_n 0, 1) := by decide +kernel
theorem dX12_as_36 : decode cX12_as 36 = .ok (.getfield 93, 3) := by decide +kernel
theorem dX12_as_39 : decode cX12_as 39 = .ok (.iload 5, 2) := by decide +kernel
theorem dX12_as_41 : decode cX12_as 41 = .ok (.baload, 1) := by decide +kernel
theorem dX12_as_42 : decode cX12_as 42 = .ok (.ifCond .ne 9, 3) := by decide +kernel
theorem dX12_as_45 : decode cX12_as 45 = .ok (.aload_n 0, 1) := by decide +kernel
theorem dX12_as_46 : decode cX12_as 46 = .ok (.iconst 1, 1) := by decide +kernel
theorem dX12_as_47 : decode cX12_as 47 = .ok (.invokevirtual 233, 3) := by decide +kernel
theorem dX12_as_50 : decode cX12_as 50 = .ok (.lreturn, 1) := by decide +kernel
theorem dX12_as_51 : decode cX12_as 51 = .ok (.aload_n 0, 1) := by decide +kernel
theorem dX12_as_52 : decode cX12_as 52 = .ok (.getfield 84, 3) := by decide +kernel
theorem dX12_as_55 : decode cX12_as 55 = .ok (.iload 5, 2) := by decide +kernel
theorem dX12_as_57 : decode cX12_as 57 = .ok (.iaload, 1) := by decide +kernel
theorem dX12_as_58 : decode cX12_as 58 = .ok (.iload 4, 2) := by decide +kernel
theorem dX12_as_60 : decode cX12_as 60 = .ok (.if_icmp .ne 14, 3) := by decide +kernel
theorem dX12_as_63 : decode cX12_as 63 = .ok (.aload_n 0, 1) := by decide +kernel
theorem dX12_as_64 : decode cX12_as 64 = .ok (.getfield 87, 3) := by decide +kernel
theorem dX12_as_67 : decode cX12_as 67 = .ok (.iload 5, 2) := by decide +kernel
theorem dX12_as_69 : decode cX12_as 69 = .ok (.iaload, 1) := by decide +kernel
theorem dX12_as_70 : decode cX12_as 70 = .ok (.iconst 2, 1) := by decide +kernel
theorem dX12_as_71 : decode cX12_as 71 = .ok (.if_icmp .ne 9, 3) := by decide +kernel
theorem dX12_as_74 : decode cX12_as 74 = .ok (.aload_n 0, 1) := by decide +kernel
theorem dX12_as_75 : decode cX12_as 75 = .ok (.iconst 2, 1) := by decide +kernel
theorem dX12_as_76 : decode cX12_as 76 = .ok (.invokevirtual 233, 3) := by decide +kernel
theorem dX12_as_79 : decode cX12_as 79 = .ok (.lreturn, 1) := by decide +kernel
theorem dX12_as_80 : decode cX12_as 80 = .ok (.iload_n 3, 1) := by decide +kernel
theorem dX12_as_81 : decode cX12_as 81 = .ok (.ifCond .lt 14, 3) := by decide +kernel
theorem dX12_as_84 : decode cX12_as 84 = .ok (.iload_n 3, 1) := by decide +kernel
theorem dX12_as_85 : decode cX12_as 85 = .ok (.aload_n 0, 1) := by decide +kernel
theorem dX12_as_86 : decode cX12_as 86 = .ok (.getfield 96, 3) := by decide +kernel
theorem dX12_as_89 : decode cX12_as 89 = .ok (.iload 5, 2) := by decide +kernel
theorem dX12_as_91 : decode cX12_as 91 = .ok (.iaload, 1) := by decide +kernel
theorem dX12_as_92 : decode cX12_as 92 = .ok (.if_icmp .lt 11, 3) := by decide +kernel
theorem dX12_as_95 : decode cX12_as 95 = .ok (.aload_n 0, 1) := by decide +kernel
theorem dX12_as_96 : decode cX12_as 96 = .ok (.iconst 3, 1) := by decide +kernel
theorem dX12_as_97 : decode cX12_as 97 = .ok (.invokevirtual 233, 3) := by decide +kernel
theorem dX12_as_100 : decode cX12_as 100 = .ok (.goto 16, 3) := by decide +kernel
theorem dX12_as_103 : decode cX12_as 103 = .ok (.aload_n 0, 1) := by decide +kernel
theorem dX12_as_104 : decode cX12_as 104 = .ok (.getfield 106, 3) := by decide +kernel
theorem dX12_as_107 : decode cX12_as 107 = .ok (.sipush 900, 3) := by decide +kernel
theorem dX12_as_110 : decode cX12_as 110 = .ok (.iload 5, 2) := by decide +kernel
theorem dX12_as_112 : decode cX12_as 112 = .ok (.imul, 1) := by decide +kernel
theorem dX12_as_113 : decode cX12_as 113 = .ok (.iload_n 3, 1) := by decide +kernel
theorem dX12_as_114 : decode cX12_as 114 = .ok (.iadd, 1) := by decide +kernel
theorem dX12_as_115 : decode cX12_as 115 = .ok (.laload, 1) := by decide +kernel
theorem dX12_as_116 : decode cX12_as 116 = .ok (.lreturn, 1) := by decide +kernel
def fn_X12_as_b95 (h : mz_H) (a0 : (Option Nat)) : mz_Res Int64 :=
  mz_chk (mz_is h a0 11) <| mz_call (fn_X12_failsLong h a0 3) fun v1 h =>
  mz_ret v1 h
set_option maxHeartbeats 4000000 in
set_option maxRecDepth 100000 in
theorem pf_X12_as_b95 (r : Int64) (Y : mz_Y p g RX12 cX12_as 6 (some .long) "as" (mz_AF h0) s m args meth c) (h : mz_H) (a0 : (Option Nat)) (dc ds : Nat) (hr : fn_X12_as_b95 h a0 = some (r, hf, dc, ds)) : mz_Go l g p e s m args below meth c 2 43 DC DS h0 (some (Value.long r)) hf 6 95 [(0, false, va_rf a0)] [] h dc ds := by
  unfold fn_X12_as_b95 at hr
  intro H locs cells slots ls hH hS hl hc hs
  have X := Y.1
  refine mz_aload_n X dX12_as_95 rfl (mz_at hl 0 rfl) ?_
  refine lv_iconst (v := 3) X.1 X.2.1 dX12_as_96 (by decide) ?_
  refine mz_kV Value.long X hH hS hl.1.1 [.int 3] [] hr (ct_X12_failsLong l g h a0 3) mb_RX12_233 rfl im_X12_failsLong rfl (Nat.le_of_ble_eq_true rfl) ⟨Nat.le_of_ble_eq_true rfl, Nat.le_of_ble_eq_true rfl⟩ hc hs dX12_as_97 rfl (fun v1 h H locs cells slots dc ds hr hH hS hc hs => ?_)
  refine lv_goto (tgt := 116) X.1 X.2.1 dX12_as_100 (by decide) ?_
  exact mz_lret Y dX12_as_116 hH hS hc hs hr
def fn_X12_as_b74 (h : mz_H) (a0 : (Option Nat)) : mz_Res Int64 :=
  mz_chk (mz_is h a0 11) <| mz_call (fn_X12_failsLong h a0 2) fun v1 h =>
  mz_ret v1 h
set_option maxHeartbeats 4000000 in
set_option maxRecDepth 100000 in
theorem pf_X12_as_b74 (r : Int64) (Y : mz_Y p g RX12 cX12_as 6 (some .long) "as" (mz_AF h0) s m args meth c) (h : mz_H) (a0 : (Option Nat)) (dc ds : Nat) (hr : fn_X12_as_b74 h a0 = some (r, hf, dc, ds)) : mz_Go l g p e s m args below meth c 2 43 DC DS h0 (some (Value.long r)) hf 6 74 [(0, false, va_rf a0)] [] h dc ds := by
  unfold fn_X12_as_b74 at hr
  intro H locs cells slots ls hH hS hl hc hs
  have X := Y.1
  refine mz_aload_n X dX12_as_74 rfl (mz_at hl 0 rfl) ?_
  refine lv_iconst (v := 2) X.1 X.2.1 dX12_as_75 (by decide) ?_
  refine mz_kV Value.long X hH hS hl.1.1 [.int 2] [] hr (ct_X12_failsLong l g h a0 2) mb_RX12_233 rfl im_X12_failsLong rfl (Nat.le_of_ble_eq_true rfl) ⟨Nat.le_of_ble_eq_true rfl, Nat.le_of_ble_eq_true rfl⟩ hc hs dX12_as_76 rfl (fun v1 h H locs cells slots dc ds hr hH hS hc hs => ?_)
  exact mz_lret Y dX12_as_79 hH hS hc hs hr
def fn_X12_as (h : mz_H) (a0 : (Option Nat)) (x1 : Int32) (x2 : Int32) (x3 : Int32) (x4 : Int32) : mz_Res Int64 :=
  mz_op (mz_pF h a0 11 0 (Value.int 0)) fun h =>
  mz_chk (mz_is h a0 11) <| mz_call (fn_X12_isSlot h a0 x1 x2) fun v1 h =>
  if v1 = 0 then
    mz_ret 0 h
  else
    mz_call (fn_X12_within h x4 0 8) fun v2 h =>
    if v2 = 0 then
      mz_ret 0 h
    else
      mz_op (some ((16 * x1) + x2)) fun v3 =>
      mz_op (mz_fR h a0 11 39) fun v4 =>
      mz_op (mz_aI h v4 2 v3) fun v5 =>
      if v5 = 0 then
        mz_chk (mz_is h a0 11) <| mz_call (fn_X12_failsLong h a0 1) fun v14 h =>
        mz_ret v14 h
      else
        mz_op (mz_fR h a0 11 36) fun v6 =>
        mz_op (mz_aI h v6 0 v3) fun v7 =>
        if v7 = x4 then
          mz_op (mz_fR h a0 11 37) fun v8 =>
          mz_op (mz_aI h v8 0 v3) fun v9 =>
          if v9 = 2 then
            fn_X12_as_b74 h a0
          else
            if x3 < 0 then
              fn_X12_as_b95 h a0
            else
              mz_op (mz_fR h a0 11 40) fun v10 =>
              mz_op (mz_aI h v10 0 v3) fun v11 =>
              if x3 < v11 then
                mz_op (mz_fR h a0 11 43) fun v12 =>
                mz_op (mz_aJ h v12 ((900 * v3) + x3)) fun v13 =>
                mz_ret v13 h
              else
                fn_X12_as_b95 h a0
        else
          fn_X12_as_b74 h a0
set_option maxHeartbeats 4000000 in
set_option maxRecDepth 100000 in
theorem pf_X12_as_b0 (r : Int64) (Y : mz_Y p g RX12 cX12_as 6 (some .long) "as" (mz_AF h0) s m args meth c) (h : mz_H) (a0 : (Option Nat)) (x1 : Int32) (x2 : Int32) (x3 : Int32) (x4 : Int32) (dc ds : Nat) (hr : fn_X12_as h a0 x1 x2 x3 x4 = some (r, hf, dc, ds)) : mz_Go l g p e s m args below meth c 2 43 DC DS h0 (some (Value.long r)) hf 6 0 [(0, false, va_rf a0), (1, false, .int x1), (2, false, .int x2), (3, false, .int x3), (4, false, .int x4)] [] h dc ds := by
  unfold fn_X12_as at hr
  intro H locs cells slots ls hH hS hl hc hs
  have X := Y.1
  refine mz_aload_n X dX12_as_0 rfl (mz_at hl 0 rfl) ?_
  refine lv_iconst (v := 0) X.1 X.2.1 dX12_as_1 (by decide) ?_
  refine mz_put X hH hS fp_RX12_125 dX12_as_2 rfl rfl hr (fun h H locs hr hH hS => ?_)
  refine mz_aload_n X dX12_as_5 rfl (mz_at hl 0 rfl) ?_
  refine lv_iload_n X.1 X.2.1 dX12_as_6 rfl (mz_at hl 1 rfl) ?_
  refine lv_iload_n X.1 X.2.1 dX12_as_7 rfl (mz_at hl 2 rfl) ?_
  refine mz_kV Value.int X hH hS hl.1.1 [.int x1, .int x2] [] hr (ct_X12_isSlot l g h a0 x1 x2) mb_RX12_226 rfl im_X12_isSlot rfl (Nat.le_of_ble_eq_true rfl) ⟨Nat.le_of_ble_eq_true rfl, Nat.le_of_ble_eq_true rfl⟩ hc hs dX12_as_8 rfl (fun v1 h H locs cells slots dc ds hr hH hS hc hs => ?_)
  refine mz_if_eq X 25 dX12_as_11 (by decide) hr (fun hr => ?_) (fun hr => ?_)
  · refine lv_lconst (v := 0) X.1 X.2.1 dX12_as_25 (by decide) ?_
    exact mz_lret Y dX12_as_26 hH hS hc hs hr
  · refine lv_iload X.1 X.2.1 dX12_as_14 (mz_at hl 4 rfl) ?_
    refine lv_iconst (v := 0) X.1 X.2.1 dX12_as_16 (by decide) ?_
    refine lv_bipush (v := 8) X.1 X.2.1 dX12_as_17 (by decide) ?_
    refine mz_kS Value.int X hH hS hl.1.1 [.int x4, .int 0, .int 8] [] hr (ct_X12_within l g h x4 0 8) mb_RX12_142 im_X12_within rfl (Nat.le_of_ble_eq_true rfl) ⟨Nat.le_of_ble_eq_true rfl, Nat.le_of_ble_eq_true rfl⟩ hc hs dX12_as_19 rfl (fun v2 h H locs cells slots dc ds hr hH hS hc hs => ?_)
    refine mz_if_ne X 27 dX12_as_22 (by decide) hr (fun hr => ?_) (fun hr => ?_)
    · refine lv_bipush (v := 16) X.1 X.2.1 dX12_as_27 (by decide) ?_
      refine lv_iload_n X.1 X.2.1 dX12_as_29 rfl (mz_at hl 1 rfl) ?_
      refine lv_imul X.1 X.2.1 dX12_as_30 ?_
      refine lv_iload_n X.1 X.2.1 dX12_as_31 rfl (mz_at hl 2 rfl) ?_
      refine lv_iadd X.1 X.2.1 dX12_as_32 ?_
      refine mz_topi hr (fun v3 hv3 hr => ?_)
      refine mz_istore X [(5, false, .int v3), (0, false, va_rf a0), (1, false, .int x1), (2, false, .int x2), (3, false, .int x3), (4, false, .int x4)] dX12_as_33 hl (by decide) rfl (fun ls hl => ?_)
      refine mz_aload_n X dX12_as_35 rfl (mz_at hl 1 rfl) ?_
      refine mz_getR X hH fl_RX12_93 dX12_as_36 hr (fun v4 hr => ?_)
      refine lv_iload X.1 X.2.1 dX12_as_39 (mz_at hl 0 rfl) ?_
      refine mz_zald X hH dX12_as_41 hr (fun v5 hr => ?_)
      refine mz_if_ne X 51 dX12_as_42 (by decide) hr (fun hr => ?_) (fun hr => ?_)
      · refine mz_aload_n X dX12_as_51 rfl (mz_at hl 1 rfl) ?_
        refine mz_getR X hH fl_RX12_84 dX12_as_52 hr (fun v6 hr => ?_)
        refine lv_iload X.1 X.2.1 dX12_as_55 (mz_at hl 0 rfl) ?_
        refine mz_iald X hH dX12_as_57 hr (fun v7 hr => ?_)
        refine lv_iload X.1 X.2.1 dX12_as_58 (mz_at hl 5 rfl) ?_
        refine mz_icmp_ne X 74 dX12_as_60 (by decide) hr (fun hr => ?_) (fun hr => ?_)
        · exact pf_X12_as_b74 r Y h a0 _ _ hr H locs cells slots ls hH hS (mz_sub hl [1] rfl) hc hs
        · refine mz_aload_n X dX12_as_63 rfl (mz_at hl 1 rfl) ?_
          refine mz_getR X hH fl_RX12_87 dX12_as_64 hr (fun v8 hr => ?_)
          refine lv_iload X.1 X.2.1 dX12_as_67 (mz_at hl 0 rfl) ?_
          refine mz_iald X hH dX12_as_69 hr (fun v9 hr => ?_)
          refine lv_iconst (v := 2) X.1 X.2.1 dX12_as_70 (by decide) ?_
          refine mz_icmp_ne X 80 dX12_as_71 (by decide) hr (fun hr => ?_) (fun hr => ?_)
          · refine lv_iload_n X.1 X.2.1 dX12_as_80 rfl (mz_at hl 4 rfl) ?_
            refine mz_if_lt X 95 dX12_as_81 (by decide) hr (fun hr => ?_) (fun hr => ?_)
            · exact pf_X12_as_b95 r Y h a0 _ _ hr H locs cells slots ls hH hS (mz_sub hl [1] rfl) hc hs
            · refine lv_iload_n X.1 X.2.1 dX12_as_84 rfl (mz_at hl 4 rfl) ?_
              refine mz_aload_n X dX12_as_85 rfl (mz_at hl 1 rfl) ?_
              refine mz_getR X hH fl_RX12_96 dX12_as_86 hr (fun v10 hr => ?_)
              refine lv_iload X.1 X.2.1 dX12_as_89 (mz_at hl 0 rfl) ?_
              refine mz_iald X hH dX12_as_91 hr (fun v11 hr => ?_)
              refine mz_icmp_lt X 103 dX12_as_92 (by decide) hr (fun hr => ?_) (fun hr => ?_)
              · refine mz_aload_n X dX12_as_103 rfl (mz_at hl 1 rfl) ?_
                refine mz_getR X hH fl_RX12_106 dX12_as_104 hr (fun v12 hr => ?_)
                refine lv_sipush (v := 900) X.1 X.2.1 dX12_as_107 (by decide) ?_
                refine lv_iload X.1 X.2.1 dX12_as_110 (mz_at hl 0 rfl) ?_
                refine lv_imul X.1 X.2.1 dX12_as_112 ?_
                refine lv_iload_n X.1 X.2.1 dX12_as_113 rfl (mz_at hl 4 rfl) ?_
                refine lv_iadd X.1 X.2.1 dX12_as_114 ?_
                refine mz_lald X hH dX12_as_115 hr (fun v13 hr => ?_)
                exact mz_lret Y dX12_as_116 hH hS hc hs hr
              · exact pf_X12_as_b95 r Y h a0 _ _ hr H locs cells slots ls hH hS (mz_sub hl [1] rfl) hc hs
          · exact pf_X12_as_b74 r Y h a0 _ _ hr H locs cells slots ls hH hS (mz_sub hl [1] rfl) hc hs
      · refine mz_aload_n X dX12_as_45 rfl (mz_at hl 1 rfl) ?_
        refine lv_iconst (v := 1) X.1 X.2.1 dX12_as_46 (by decide) ?_
        refine mz_kV Value.long X hH hS hl.1.1 [.int 1] [] hr (ct_X12_failsLong l g h a0 1) mb_RX12_233 rfl im_X12_failsLong rfl (Nat.le_of_ble_eq_true rfl) ⟨Nat.le_of_ble_eq_true rfl, Nat.le_of_ble_eq_true rfl⟩ hc hs dX12_as_47 rfl (fun v14 h H locs cells slots dc ds hr hH hS hc hs => ?_)
        exact mz_lret Y dX12_as_50 hH hS hc hs hr
    · refine lv_lconst (v := 0) X.1 X.2.1 dX12_as_25 (by decide) ?_
      exact mz_lret Y dX12_as_26 hH hS hc hs hr
set_option maxRecDepth 100000 in
theorem ct_X12_as (l : Launch) (g : mz_G) (h : mz_H) (a0 : (Option Nat)) (x1 : Int32) (x2 : Int32) (x3 : Int32) (x4 : Int32) (r : Int64) (hf : mz_H) (k n : Nat) (hr : fn_X12_as h a0 x1 x2 x3 x4 = some (r, hf, k, n)) : mz_C l g yX12_as cX12_as 6 (some .long) 2 43 [va_rf a0, .int x1, .int x2, .int x3, .int x4] h (some (Value.long r)) hf k n := by
  refine mz_met (as := [(false, va_rf a0), (false, .int x1), (false, .int x2), (false, .int x3), (false, .int x4)]) (plainFor_of_name (by decide)) (mz_c1 (mz_cat_rf _) (mz_c1 rfl (mz_c1 rfl (mz_c1 rfl (mz_c1 rfl mz_c0))))) (Nat.le_of_ble_eq_true rfl) ?_
  intro p e s m args below meth c Y
  exact pf_X12_as_b0 r Y h a0 x1 x2 x3 x4 _ _ hr
theorem dX12_isWidened_0 : decode cX12_isWidened 0 = .ok (.iload_n 0, 1) := by decide +kernel
theorem dX12_isWidened_1 : decode cX12_isWidened 1 = .ok (.iload_n 1, 1) := by decide +kernel
theorem dX12_isWidened_2 : decode cX12_isWidened 2 = .ok (.if_icmp .ne 5, 3) := by decide +kernel
theorem dX12_isWidened_5 : decode cX12_isWidened 5 = .ok (.iconst 1, 1) := by decide +kernel
theorem dX12_isWidened_6 : decode cX12_isWidened 6 = .ok (.ireturn, 1) := by decide +kernel
theorem dX12_isWidened_7 : decode cX12_isWidened 7 = .ok (.iload_n 0, 1) := by decide +kernel
theorem dX12_isWidened_8 : decode cX12_isWidened 8 = .ok (.iconst 5, 1) := by decide +kernel
theorem dX12_isWidened_9 : decode cX12_isWidened 9 = .ok (.if_icmp .gt 43, 3) := by decide +kernel
theorem dX12_isWidened_12 : decode cX12_isWidened 12 = .ok (.iload_n 1, 1) := by decide +kernel
theorem dX12_isWidened_13 : decode cX12_isWidened 13 = .ok (.bipush 6, 2) := by decide +kernel
theorem dX12_isWidened_15 : decode cX12_isWidened 15 = .ok (.if_icmp .gt 37, 3) := by decide +kernel
theorem dX12_isWidened_18 : decode cX12_isWidened 18 = .ok (.iload_n 0, 1) := by decide +kernel
theorem dX12_isWidened_19 : decode cX12_isWidened 19 = .ok (.ifCond .ne 11, 3) := by decide +kernel
theorem dX12_isWidened_22 : decode cX12_isWidened 22 = .ok (.iload_n 1, 1) := by decide +kernel
theorem dX12_isWidened_23 : decode cX12_isWidened 23 = .ok (.iconst 2, 1) := by decide +kernel
theorem dX12_isWidened_24 : decode cX12_isWidened 24 = .ok (.if_icmp .eq 28, 3) := by decide +kernel
theorem dX12_isWidened_27 : decode cX12_isWidened 27 = .ok (.goto 21, 3) := by decide +kernel
theorem dX12_isWidened_30 : decode cX12_isWidened 30 = .ok (.iload_n 0, 1) := by decide +kernel
theorem dX12_isWidened_31 : decode cX12_isWidened 31 = .ok (.iconst 3, 1) := by decide +kernel
theorem dX12_isWidened_32 : decode cX12_isWidened 32 = .ok (.if_icmp .ge 11, 3) := by decide +kernel
theorem dX12_isWidened_35 : decode cX12_isWidened 35 = .ok (.iload_n 1, 1) := by decide +kernel
theorem dX12_isWidened_36 : decode cX12_isWidened 36 = .ok (.iconst 3, 1) := by decide +kernel
theorem dX12_isWidened_37 : decode cX12_isWidened 37 = .ok (.if_icmp .lt 15, 3) := by decide +kernel
theorem dX12_isWidened_40 : decode cX12_isWidened 40 = .ok (.goto 8, 3) := by decide +kernel
theorem dX12_isWidened_43 : decode cX12_isWidened 43 = .ok (.iload_n 1, 1) := by decide +kernel
theorem dX12_isWidened_44 : decode cX12_isWidened 44 = .ok (.iload_n 0, 1) := by decide +kernel
theorem dX12_isWidened_45 : decode cX12_isWidened 45 = .ok (.if_icmp .le 7, 3) := by decide +kernel
theorem dX12_isWidened_48 : decode cX12_isWidened 48 = .ok (.iconst 1, 1) := by decide +kernel
theorem dX12_isWidened_49 : decode cX12_isWidened 49 = .ok (.goto 4, 3) := by decide +kernel
theorem dX12_isWidened_52 : decode cX12_isWidened 52 = .ok (.iconst 0, 1) := by decide +kernel
theorem dX12_isWidened_53 : decode cX12_isWidened 53 = .ok (.ireturn, 1) := by decide +kernel
def fn_X12_isWidened_b48 (h : mz_H) : mz_Res Int32 :=
  mz_chk ((1 : Int32) &&& 1 == 1) (mz_ret 1 h)
set_option maxHeartbeats 4000000 in
set_option maxRecDepth 100000 in
theorem pf_X12_isWidened_b48 (r : Int32) (Y : mz_Y p g RX12 cX12_isWidened 2 (some .boolean) "isWidened" (mz_AF h0) s m args meth c) (h : mz_H) (dc ds : Nat) (hr : fn_X12_isWidened_b48 h = some (r, hf, dc, ds)) : mz_Go l g p e s m args below meth c 0 0 DC DS h0 (some (Value.int r)) hf 2 48 [] [] h dc ds := by
  unfold fn_X12_isWidened_b48 at hr
  intro H locs cells slots ls hH hS hl hc hs
  have X := Y.1
  refine lv_iconst (v := 1) X.1 X.2.1 dX12_isWidened_48 (by decide) ?_
  refine lv_goto (tgt := 53) X.1 X.2.1 dX12_isWidened_49 (by decide) ?_
  exact mz_zret Y dX12_isWidened_53 hH hS hc hs hr
def fn_X12_isWidened (h : mz_H) (x0 : Int32) (x1 : Int32) : mz_Res Int32 :=
  if x0 = x1 then
    mz_chk ((1 : Int32) &&& 1 == 1) (mz_ret 1 h)
  else
    if 5 < x0 then
      mz_chk ((0 : Int32) &&& 1 == 0) (mz_ret 0 h)
    else
      if 6 < x1 then
        mz_chk ((0 : Int32) &&& 1 == 0) (mz_ret 0 h)
      else
        if x0 = 0 then
          if x1 = 2 then
            mz_chk ((0 : Int32) &&& 1 == 0) (mz_ret 0 h)
          else
            fn_X12_isWidened_b48 h
        else
          if 3 ≤ x0 then
            if x1 ≤ x0 then
              mz_chk ((0 : Int32) &&& 1 == 0) (mz_ret 0 h)
            else
              fn_X12_isWidened_b48 h
          else
            if x1 < 3 then
              mz_chk ((0 : Int32) &&& 1 == 0) (mz_ret 0 h)
            else
              fn_X12_isWidened_b48 h
set_option maxHeartbeats 4000000 in
set_option maxRecDepth 100000 in
theorem pf_X12_isWidened_b0 (r : Int32) (Y : mz_Y p g RX12 cX12_isWidened 2 (some .boolean) "isWidened" (mz_AF h0) s m args meth c) (h : mz_H) (x0 : Int32) (x1 : Int32) (dc ds : Nat) (hr : fn_X12_isWidened h x0 x1 = some (r, hf, dc, ds)) : mz_Go l g p e s m args below meth c 0 0 DC DS h0 (some (Value.int r)) hf 2 0 [(0, false, .int x0), (1, false, .int x1)] [] h dc ds := by
  unfold fn_X12_isWidened at hr
  intro H locs cells slots ls hH hS hl hc hs
  have X := Y.1
  refine lv_iload_n X.1 X.2.1 dX12_isWidened_0 rfl (mz_at hl 0 rfl) ?_
  refine lv_iload_n X.1 X.2.1 dX12_isWidened_1 rfl (mz_at hl 1 rfl) ?_
  refine mz_icmp_ne X 7 dX12_isWidened_2 (by decide) hr (fun hr => ?_) (fun hr => ?_)
  · refine lv_iload_n X.1 X.2.1 dX12_isWidened_7 rfl (mz_at hl 0 rfl) ?_
    refine lv_iconst (v := 5) X.1 X.2.1 dX12_isWidened_8 (by decide) ?_
    refine mz_icmp_gt X 52 dX12_isWidened_9 (by decide) hr (fun hr => ?_) (fun hr => ?_)
    · refine lv_iconst (v := 0) X.1 X.2.1 dX12_isWidened_52 (by decide) ?_
      exact mz_zret Y dX12_isWidened_53 hH hS hc hs hr
    · refine lv_iload_n X.1 X.2.1 dX12_isWidened_12 rfl (mz_at hl 1 rfl) ?_
      refine lv_bipush (v := 6) X.1 X.2.1 dX12_isWidened_13 (by decide) ?_
      refine mz_icmp_gt X 52 dX12_isWidened_15 (by decide) hr (fun hr => ?_) (fun hr => ?_)
      · refine lv_iconst (v := 0) X.1 X.2.1 dX12_isWidened_52 (by decide) ?_
        exact mz_zret Y dX12_isWidened_53 hH hS hc hs hr
      · refine lv_iload_n X.1 X.2.1 dX12_isWidened_18 rfl (mz_at hl 0 rfl) ?_
        refine mz_if_ne X 30 dX12_isWidened_19 (by decide) hr (fun hr => ?_) (fun hr => ?_)
        · refine lv_iload_n X.1 X.2.1 dX12_isWidened_30 rfl (mz_at hl 0 rfl) ?_
          refine lv_iconst (v := 3) X.1 X.2.1 dX12_isWidened_31 (by decide) ?_
          refine mz_icmp_ge X 43 dX12_isWidened_32 (by decide) hr (fun hr => ?_) (fun hr => ?_)
          · refine lv_iload_n X.1 X.2.1 dX12_isWidened_43 rfl (mz_at hl 1 rfl) ?_
            refine lv_iload_n X.1 X.2.1 dX12_isWidened_44 rfl (mz_at hl 0 rfl) ?_
            refine mz_icmp_le X 52 dX12_isWidened_45 (by decide) hr (fun hr => ?_) (fun hr => ?_)
            · refine lv_iconst (v := 0) X.1 X.2.1 dX12_isWidened_52 (by decide) ?_
              exact mz_zret Y dX12_isWidened_53 hH hS hc hs hr
            · exact pf_X12_isWidened_b48 r Y h  _ _ hr H locs cells slots ls hH hS (mz_sub hl [] rfl) hc hs
          · refine lv_iload_n X.1 X.2.1 dX12_isWidened_35 rfl (mz_at hl 1 rfl) ?_
            refine lv_iconst (v := 3) X.1 X.2.1 dX12_isWidened_36 (by decide) ?_
            refine mz_icmp_lt X 52 dX12_isWidened_37 (by decide) hr (fun hr => ?_) (fun hr => ?_)
            · refine lv_iconst (v := 0) X.1 X.2.1 dX12_isWidened_52 (by decide) ?_
              exact mz_zret Y dX12_isWidened_53 hH hS hc hs hr
            · refine lv_goto (tgt := 48) X.1 X.2.1 dX12_isWidened_40 (by decide) ?_
              exact pf_X12_isWidened_b48 r Y h  _ _ hr H locs cells slots ls hH hS (mz_sub hl [] rfl) hc hs
        · refine lv_iload_n X.1 X.2.1 dX12_isWidened_22 rfl (mz_at hl 1 rfl) ?_
          refine lv_iconst (v := 2) X.1 X.2.1 dX12_isWidened_23 (by decide) ?_
          refine mz_icmp_eq X 52 dX12_isWidened_24 (by decide) hr (fun hr => ?_) (fun hr => ?_)
          · refine lv_iconst (v := 0) X.1 X.2.1 dX12_isWidened_52 (by decide) ?_
            exact mz_zret Y dX12_isWidened_53 hH hS hc hs hr
          · refine lv_goto (tgt := 48) X.1 X.2.1 dX12_isWidened_27 (by decide) ?_
            exact pf_X12_isWidened_b48 r Y h  _ _ hr H locs cells slots ls hH hS (mz_sub hl [] rfl) hc hs
  · refine lv_iconst (v := 1) X.1 X.2.1 dX12_isWidened_5 (by decide) ?_
    exact mz_zret Y dX12_isWidened_6 hH hS hc hs hr
set_option maxRecDepth 100000 in
theorem ct_X12_isWidened (l : Launch) (g : mz_G) (h : mz_H) (x0 : Int32) (x1 : Int32) (r : Int32) (hf : mz_H) (k n : Nat) (hr : fn_X12_isWidened h x0 x1 = some (r, hf, k, n)) : mz_C l g yX12_isWidened cX12_isWidened 2 (some .boolean) 0 0 [.int x0, .int x1] h (some (Value.int r)) hf k n := by
  refine mz_met (as := [(false, .int x0), (false, .int x1)]) (plainFor_of_name (by decide)) (mz_c1 rfl (mz_c1 rfl mz_c0)) (Nat.le_of_ble_eq_true rfl) ?_
  intro p e s m args below meth c Y
  exact pf_X12_isWidened_b0 r Y h x0 x1 _ _ hr
end

/-! X12_widened X12_wide X12_copy X12_follow X12_twin -/
section
variable {p : Program} {l : Launch} {e : Env} {s : State} {m : MethodId} {args : Array Value} {below : List Frame} {meth : Method} {c : Code} {g : mz_G} {h0 hf : mz_H} {DC DS : Nat}
theorem dX12_widened_0 : decode cX12_widened 0 = .ok (.iload_n 2, 1) := by decide +kernel
theorem dX12_widened_1 : decode cX12_widened 1 = .ok (.iload_n 3, 1) := by decide +kernel
theorem dX12_widened_2 : decode cX12_widened 2 = .ok (.if_icmp .eq 13, 3) := by decide +kernel
theorem dX12_widened_5 : decode cX12_widened 5 = .ok (.iload_n 3, 1) := by decide +kernel
theorem dX12_widened_6 : decode cX12_widened 6 = .ok (.iconst 4, 1) := by decide +kernel
theorem dX12_widened_7 : decode cX12_widened 7 = .ok (.if_icmp .le 8, 3) := by decide +kernel
theorem dX12_widened_10 : decode cX12_widened 10 = .ok (.iload_n 2, 1) := by decide +kernel
theorem dX12_widened_11 : decode cX12_widened 11 = .ok (.iconst 5, 1) := by decide +kernel
theorem dX12_widened_12 : decode cX12_widened 12 = .ok (.if_icmp .ne 5, 3) := by decide +kernel
theorem dX12_widened_15 : decode cX12_widened 15 = .ok (.lload_n 0, 1) := by decide +kernel
theorem dX12_widened_16 : decode cX12_widened 16 = .ok (.lreturn, 1) := by decide +kernel
theorem dX12_widened_17 : decode cX12_widened 17 = .ok (.iload_n 3, 1) := by decide +kernel
theorem dX12_widened_18 : decode cX12_widened 18 = .ok (.iconst 5, 1) := by decide +kernel
theorem dX12_widened_19 : decode cX12_widened 19 = .ok (.if_icmp .ne 11, 3) := by decide +kernel
theorem dX12_widened_22 : decode cX12_widened 22 = .ok (.lload_n 0, 1) := by decide +kernel
theorem dX12_widened_23 : decode cX12_widened 23 = .ok (.l2f, 1) := by decide +kernel
theorem dX12_widened_24 : decode cX12_widened 24 = .ok (.invokestatic 255, 3) := by decide +kernel
theorem dX12_widened_27 : decode cX12_widened 27 = .ok (.goto 8, 3) := by decide +kernel
theorem dX12_widened_30 : decode cX12_widened 30 = .ok (.lload_n 0, 1) := by decide +kernel
theorem dX12_widened_31 : decode cX12_widened 31 = .ok (.l2d, 1) := by decide +kernel
theorem dX12_widened_32 : decode cX12_widened 32 = .ok (.invokestatic 241, 3) := by decide +kernel
theorem dX12_widened_35 : decode cX12_widened 35 = .ok (.lreturn, 1) := by decide +kernel
def fn_X12_widened (h : mz_H) (j0 : Int64) (x2 : Int32) (x3 : Int32) : mz_Res Int64 :=
  if x2 = x3 then
    mz_ret j0 h
  else
    if x3 ≤ 4 then
      mz_ret j0 h
    else
      if x2 = 5 then
        mz_ret j0 h
      else
        if x3 = 5 then
          mz_call (fn_X12_ofFloat h (FP.l2f j0)) fun v2 h =>
          mz_ret v2 h
        else
          mz_call (fn_J_d2l h (FP.l2d j0)) fun v1 h =>
          mz_ret v1 h
set_option maxHeartbeats 4000000 in
set_option maxRecDepth 100000 in
theorem pf_X12_widened_b0 (r : Int64) (Y : mz_Y p g RX12 cX12_widened 4 (some .long) "widened" (mz_AF h0) s m args meth c) (h : mz_H) (j0 : Int64) (x2 : Int32) (x3 : Int32) (dc ds : Nat) (hr : fn_X12_widened h j0 x2 x3 = some (r, hf, dc, ds)) : mz_Go l g p e s m args below meth c 3 64 DC DS h0 (some (Value.long r)) hf 4 0 [(0, true, .long j0), (2, false, .int x2), (3, false, .int x3)] [] h dc ds := by
  unfold fn_X12_widened at hr
  intro H locs cells slots ls hH hS hl hc hs
  have X := Y.1
  refine lv_iload_n X.1 X.2.1 dX12_widened_0 rfl (mz_at hl 1 rfl) ?_
  refine lv_iload_n X.1 X.2.1 dX12_widened_1 rfl (mz_at hl 2 rfl) ?_
  refine mz_icmp_eq X 15 dX12_widened_2 (by decide) hr (fun hr => ?_) (fun hr => ?_)
  · refine lv_lload_n X.1 X.2.1 dX12_widened_15 rfl (mz_at hl 0 rfl) ?_
    exact mz_lret Y dX12_widened_16 hH hS hc hs hr
  · refine lv_iload_n X.1 X.2.1 dX12_widened_5 rfl (mz_at hl 2 rfl) ?_
    refine lv_iconst (v := 4) X.1 X.2.1 dX12_widened_6 (by decide) ?_
    refine mz_icmp_le X 15 dX12_widened_7 (by decide) hr (fun hr => ?_) (fun hr => ?_)
    · refine lv_lload_n X.1 X.2.1 dX12_widened_15 rfl (mz_at hl 0 rfl) ?_
      exact mz_lret Y dX12_widened_16 hH hS hc hs hr
    · refine lv_iload_n X.1 X.2.1 dX12_widened_10 rfl (mz_at hl 1 rfl) ?_
      refine lv_iconst (v := 5) X.1 X.2.1 dX12_widened_11 (by decide) ?_
      refine mz_icmp_ne X 17 dX12_widened_12 (by decide) hr (fun hr => ?_) (fun hr => ?_)
      · refine lv_iload_n X.1 X.2.1 dX12_widened_17 rfl (mz_at hl 2 rfl) ?_
        refine lv_iconst (v := 5) X.1 X.2.1 dX12_widened_18 (by decide) ?_
        refine mz_icmp_ne X 30 dX12_widened_19 (by decide) hr (fun hr => ?_) (fun hr => ?_)
        · refine lv_lload_n X.1 X.2.1 dX12_widened_30 rfl (mz_at hl 0 rfl) ?_
          refine lv_l2d X.1 X.2.1 dX12_widened_31 ?_
          refine mz_kS Value.long X hH hS hl.1.1 [.double (FP.l2d j0)] [] hr (ct_J_d2l l g h (FP.l2d j0)) mb_RX12_241 im_J_d2l rfl (Nat.le_of_ble_eq_true rfl) ⟨Nat.le_of_ble_eq_true rfl, Nat.le_of_ble_eq_true rfl⟩ hc hs dX12_widened_32 rfl (fun v1 h H locs cells slots dc ds hr hH hS hc hs => ?_)
          exact mz_lret Y dX12_widened_35 hH hS hc hs hr
        · refine lv_lload_n X.1 X.2.1 dX12_widened_22 rfl (mz_at hl 0 rfl) ?_
          refine lv_l2f X.1 X.2.1 dX12_widened_23 ?_
          refine mz_kS Value.long X hH hS hl.1.1 [.float (FP.l2f j0)] [] hr (ct_X12_ofFloat l g h (FP.l2f j0)) mb_RX12_255 im_X12_ofFloat rfl (Nat.le_of_ble_eq_true rfl) ⟨Nat.le_of_ble_eq_true rfl, Nat.le_of_ble_eq_true rfl⟩ hc hs dX12_widened_24 rfl (fun v2 h H locs cells slots dc ds hr hH hS hc hs => ?_)
          refine lv_goto (tgt := 35) X.1 X.2.1 dX12_widened_27 (by decide) ?_
          exact mz_lret Y dX12_widened_35 hH hS hc hs hr
      · refine lv_lload_n X.1 X.2.1 dX12_widened_15 rfl (mz_at hl 0 rfl) ?_
        exact mz_lret Y dX12_widened_16 hH hS hc hs hr
set_option maxRecDepth 100000 in
theorem ct_X12_widened (l : Launch) (g : mz_G) (h : mz_H) (j0 : Int64) (x2 : Int32) (x3 : Int32) (r : Int64) (hf : mz_H) (k n : Nat) (hr : fn_X12_widened h j0 x2 x3 = some (r, hf, k, n)) : mz_C l g yX12_widened cX12_widened 4 (some .long) 3 64 [.long j0, .int x2, .int x3] h (some (Value.long r)) hf k n := by
  refine mz_met (as := [(true, .long j0), (false, .int x2), (false, .int x3)]) (plainFor_of_name (by decide)) (mz_c1 rfl (mz_c1 rfl (mz_c1 rfl mz_c0))) (Nat.le_of_ble_eq_true rfl) ?_
  intro p e s m args below meth c Y
  exact pf_X12_widened_b0 r Y h j0 x2 x3 _ _ hr
theorem dX12_wide_0 : decode cX12_wide 0 = .ok (.aload_n 0, 1) := by decide +kernel
theorem dX12_wide_1 : decode cX12_wide 1 = .ok (.iconst 0, 1) := by decide +kernel
theorem dX12_wide_2 : decode cX12_wide 2 = .ok (.putfield 125, 3) := by decide +kernel
theorem dX12_wide_5 : decode cX12_wide 5 = .ok (.aload_n 0, 1) := by decide +kernel
theorem dX12_wide_6 : decode cX12_wide 6 = .ok (.iload_n 1, 1) := by decide +kernel
theorem dX12_wide_7 : decode cX12_wide 7 = .ok (.iload_n 2, 1) := by decide +kernel
theorem dX12_wide_8 : decode cX12_wide 8 = .ok (.invokevirtual 226, 3) := by decide +kernel
theorem dX12_wide_11 : decode cX12_wide 11 = .ok (.ifCond .eq 14, 3) := by decide +kernel
theorem dX12_wide_14 : decode cX12_wide 14 = .ok (.iload 4, 2) := by decide +kernel
theorem dX12_wide_16 : decode cX12_wide 16 = .ok (.iconst 0, 1) := by decide +kernel
theorem dX12_wide_17 : decode cX12_wide 17 = .ok (.bipush 7, 2) := by decide +kernel
theorem dX12_wide_19 : decode cX12_wide 19 = .ok (.invokestatic 142, 3) := by decide +kernel
theorem dX12_wide_22 : decode cX12_wide 22 = .ok (.ifCond .ne 5, 3) := by decide +kernel
theorem dX12_wide_25 : decode cX12_wide 25 = .ok (.lconst 0, 1) := by decide +kernel
theorem dX12_wide_26 : decode cX12_wide 26 = .ok (.lreturn, 1) := by decide +kernel
theorem dX12_wide_27 : decode cX12_wide 27 = .ok (.bipush 16, 2) := by decide +kernel
theorem dX12_wide_29 : decode cX12_wide 29 = .ok (.iload_n 1, 1) := by decide +kernel
theorem dX12_wide_30 : decode cX12_wide 30 = .ok (.imul, 1) := by decide +kernel
theorem dX12_wide_31 : decode cX12_wide 31 = .ok (.iload_n 2, 1) := by decide +kernel
theorem dX12_wide_32 : decode cX12_wide 32 = .ok (.iadd, 1) := by decide +kernel
theorem dX12_wide_33 : decode cX12_wide 33 = .ok (.istore 5, 2) := by decide +kernel
theorem dX12_wide_35 : decode cX12_wide 35 = .ok (.aload_n 0, 1) := by decide +kernel
theorem dX12_wide_36 : decode cX12_wide 36 = .ok (.getfield 93, 3) := by decide +kernel
theorem dX12_wide_39 : decode cX12_wide 39 = .ok (.iload 5, 2) := by decide +kernel
theorem dX12_wide_41 : decode cX12_wide 41 = .ok (.baload, 1) := by decide +kernel
theorem dX12_wide_42 : decode cX12_wide 42 = .ok (.ifCond .ne 9, 3) := by decide +kernel
theorem dX12_wide_45 : decode cX12_wide 45 = .ok (.aload_n 0, 1) := by decide +kernel
theorem dX12_wide_46 : decode cX12_wide 46 = .ok (.iconst 1, 1) := by decide +kernel
theorem dX12_wide_47 : decode cX12_wide 47 = .ok (.invokevirtual 233, 3) := by decide +kernel
theorem dX12_wide_50 : decode cX12_wide 50 = .ok (.lreturn, 1) := by decide +kernel
theorem dX12_wide_51 : decode cX12_wide 51 = .ok (.aload_n 0, 1) := by decide +kernel
theorem dX12_wide_52 : decode cX12_wide 52 = .ok (.getfield 87, 3) := by decide +kernel
theorem dX12_wide_55 : decode cX12_wide 55 = .ok (.iload 5, 2) := by decide +kernel
theorem dX12_wide_57 : decode cX12_wide 57 = .ok (.iaload, 1) := by decide +kernel
theorem dX12_wide_58 : decode cX12_wide 58 = .ok (.iconst 2, 1) := by decide +kernel
theorem dX12_wide_59 : decode cX12_wide 59 = .ok (.if_icmp .eq 15, 3) := by decide +kernel
theorem dX12_wide_62 : decode cX12_wide 62 = .ok (.aload_n 0, 1) := by decide +kernel
theorem dX12_wide_63 : decode cX12_wide 63 = .ok (.getfield 84, 3) := by decide +kernel
theorem dX12_wide_66 : decode cX12_wide 66 = .ok (.iload 5, 2) := by decide +kernel
theorem dX12_wide_68 : decode cX12_wide 68 = .ok (.iaload, 1) := by decide +kernel
theorem dX12_wide_69 : decode cX12_wide 69 = .ok (.bipush 8, 2) := by decide +kernel
theorem dX12_wide_71 : decode cX12_wide 71 = .ok (.if_icmp .ne 10, 3) := by decide +kernel
theorem dX12_wide_74 : decode cX12_wide 74 = .ok (.aload_n 0, 1) := by decide +kernel
theorem dX12_wide_75 : decode cX12_wide 75 = .ok (.bipush 7, 2) := by decide +kernel
theorem dX12_wide_77 : decode cX12_wide 77 = .ok (.invokevirtual 233, 3) := by decide +kernel
theorem dX12_wide_80 : decode cX12_wide 80 = .ok (.lreturn, 1) := by decide +kernel
theorem dX12_wide_81 : decode cX12_wide 81 = .ok (.iload_n 3, 1) := by decide +kernel
theorem dX12_wide_82 : decode cX12_wide 82 = .ok (.ifCond .lt 14, 3) := by decide +kernel
theorem dX12_wide_85 : decode cX12_wide 85 = .ok (.iload_n 3, 1) := by decide +kernel
theorem dX12_wide_86 : decode cX12_wide 86 = .ok (.aload_n 0, 1) := by decide +kernel
theorem dX12_wide_87 : decode cX12_wide 87 = .ok (.getfield 96, 3) := by decide +kernel
theorem dX12_wide_90 : decode cX12_wide 90 = .ok (.iload 5, 2) := by decide +kernel
theorem dX12_wide_92 : decode cX12_wide 92 = .ok (.iaload, 1) := by decide +kernel
theorem dX12_wide_93 : decode cX12_wide 93 = .ok (.if_icmp .lt 9, 3) := by decide +kernel
theorem dX12_wide_96 : decode cX12_wide 96 = .ok (.aload_n 0, 1) := by decide +kernel
theorem dX12_wide_97 : decode cX12_wide 97 = .ok (.iconst 3, 1) := by decide +kernel
theorem dX12_wide_98 : decode cX12_wide 98 = .ok (.invokevirtual 233, 3) := by decide +kernel
theorem dX12_wide_101 : decode cX12_wide 101 = .ok (.lreturn, 1) := by decide +kernel
theorem dX12_wide_102 : decode cX12_wide 102 = .ok (.aload_n 0, 1) := by decide +kernel
theorem dX12_wide_103 : decode cX12_wide 103 = .ok (.getfield 84, 3) := by decide +kernel
theorem dX12_wide_106 : decode cX12_wide 106 = .ok (.iload 5, 2) := by decide +kernel
theorem dX12_wide_108 : decode cX12_wide 108 = .ok (.iaload, 1) := by decide +kernel
theorem dX12_wide_109 : decode cX12_wide 109 = .ok (.iload 4, 2) := by decide +kernel
theorem dX12_wide_111 : decode cX12_wide 111 = .ok (.invokestatic 265, 3) := by decide +kernel
theorem dX12_wide_114 : decode cX12_wide 114 = .ok (.ifCond .eq 31, 3) := by decide +kernel
theorem dX12_wide_117 : decode cX12_wide 117 = .ok (.aload_n 0, 1) := by decide +kernel
theorem dX12_wide_118 : decode cX12_wide 118 = .ok (.getfield 106, 3) := by decide +kernel
theorem dX12_wide_121 : decode cX12_wide 121 = .ok (.sipush 900, 3) := by decide +kernel
theorem dX12_wide_124 : decode cX12_wide 124 = .ok (.iload 5, 2) := by decide +kernel
theorem dX12_wide_126 : decode cX12_wide 126 = .ok (.imul, 1) := by decide +kernel
theorem dX12_wide_127 : decode cX12_wide 127 = .ok (.iload_n 3, 1) := by decide +kernel
theorem dX12_wide_128 : decode cX12_wide 128 = .ok (.iadd, 1) := by decide +kernel
theorem dX12_wide_129 : decode cX12_wide 129 = .ok (.laload, 1) := by decide +kernel
theorem dX12_wide_130 : decode cX12_wide 130 = .ok (.aload_n 0, 1) := by decide +kernel
theorem dX12_wide_131 : decode cX12_wide 131 = .ok (.getfield 84, 3) := by decide +kernel
theorem dX12_wide_134 : decode cX12_wide 134 = .ok (.iload 5, 2) := by decide +kernel
theorem dX12_wide_136 : decode cX12_wide 136 = .ok (.iaload, 1) := by decide +kernel
theorem dX12_wide_137 : decode cX12_wide 137 = .ok (.iload 4, 2) := by decide +kernel
theorem dX12_wide_139 : decode cX12_wide 139 = .ok (.invokestatic 268, 3) := by decide +kernel
theorem dX12_wide_142 : decode cX12_wide 142 = .ok (.goto 9, 3) := by decide +kernel
theorem dX12_wide_145 : decode cX12_wide 145 = .ok (.aload_n 0, 1) := by decide +kernel
theorem dX12_wide_146 : decode cX12_wide 146 = .ok (.bipush 7, 2) := by decide +kernel
theorem dX12_wide_148 : decode cX12_wide 148 = .ok (.invokevirtual 233, 3) := by decide +kernel
theorem dX12_wide_151 : decode cX12_wide 151 = .ok (.lreturn, 1) := by decide +kernel
def fn_X12_wide_b96 (h : mz_H) (a0 : (Option Nat)) : mz_Res Int64 :=
  mz_chk (mz_is h a0 11) <| mz_call (fn_X12_failsLong h a0 3) fun v1 h =>
  mz_ret v1 h
set_option maxHeartbeats 4000000 in
set_option maxRecDepth 100000 in
theorem pf_X12_wide_b96 (r : Int64) (Y : mz_Y p g RX12 cX12_wide 6 (some .long) "wide" (mz_AF h0) s m args meth c) (h : mz_H) (a0 : (Option Nat)) (dc ds : Nat) (hr : fn_X12_wide_b96 h a0 = some (r, hf, dc, ds)) : mz_Go l g p e s m args below meth c 4 87 DC DS h0 (some (Value.long r)) hf 6 96 [(0, false, va_rf a0)] [] h dc ds := by
  unfold fn_X12_wide_b96 at hr
  intro H locs cells slots ls hH hS hl hc hs
  have X := Y.1
  refine mz_aload_n X dX12_wide_96 rfl (mz_at hl 0 rfl) ?_
  refine lv_iconst (v := 3) X.1 X.2.1 dX12_wide_97 (by decide) ?_
  refine mz_kV Value.long X hH hS hl.1.1 [.int 3] [] hr (ct_X12_failsLong l g h a0 3) mb_RX12_233 rfl im_X12_failsLong rfl (Nat.le_of_ble_eq_true rfl) ⟨Nat.le_of_ble_eq_true rfl, Nat.le_of_ble_eq_true rfl⟩ hc hs dX12_wide_98 rfl (fun v1 h H locs cells slots dc ds hr hH hS hc hs => ?_)
  exact mz_lret Y dX12_wide_101 hH hS hc hs hr
def fn_X12_wide_b74 (h : mz_H) (a0 : (Option Nat)) : mz_Res Int64 :=
  mz_chk (mz_is h a0 11) <| mz_call (fn_X12_failsLong h a0 7) fun v1 h =>
  mz_ret v1 h
set_option maxHeartbeats 4000000 in
set_option maxRecDepth 100000 in
theorem pf_X12_wide_b74 (r : Int64) (Y : mz_Y p g RX12 cX12_wide 6 (some .long) "wide" (mz_AF h0) s m args meth c) (h : mz_H) (a0 : (Option Nat)) (dc ds : Nat) (hr : fn_X12_wide_b74 h a0 = some (r, hf, dc, ds)) : mz_Go l g p e s m args below meth c 4 87 DC DS h0 (some (Value.long r)) hf 6 74 [(0, false, va_rf a0)] [] h dc ds := by
  unfold fn_X12_wide_b74 at hr
  intro H locs cells slots ls hH hS hl hc hs
  have X := Y.1
  refine mz_aload_n X dX12_wide_74 rfl (mz_at hl 0 rfl) ?_
  refine lv_bipush (v := 7) X.1 X.2.1 dX12_wide_75 (by decide) ?_
  refine mz_kV Value.long X hH hS hl.1.1 [.int 7] [] hr (ct_X12_failsLong l g h a0 7) mb_RX12_233 rfl im_X12_failsLong rfl (Nat.le_of_ble_eq_true rfl) ⟨Nat.le_of_ble_eq_true rfl, Nat.le_of_ble_eq_true rfl⟩ hc hs dX12_wide_77 rfl (fun v1 h H locs cells slots dc ds hr hH hS hc hs => ?_)
  exact mz_lret Y dX12_wide_80 hH hS hc hs hr
def fn_X12_wide (h : mz_H) (a0 : (Option Nat)) (x1 : Int32) (x2 : Int32) (x3 : Int32) (x4 : Int32) : mz_Res Int64 :=
  mz_op (mz_pF h a0 11 0 (Value.int 0)) fun h =>
  mz_chk (mz_is h a0 11) <| mz_call (fn_X12_isSlot h a0 x1 x2) fun v1 h =>
  if v1 = 0 then
    mz_ret 0 h
  else
    mz_call (fn_X12_within h x4 0 7) fun v2 h =>
    if v2 = 0 then
      mz_ret 0 h
    else
      mz_op (some ((16 * x1) + x2)) fun v3 =>
      mz_op (mz_fR h a0 11 39) fun v4 =>
      mz_op (mz_aI h v4 2 v3) fun v5 =>
      if v5 = 0 then
        mz_chk (mz_is h a0 11) <| mz_call (fn_X12_failsLong h a0 1) fun v21 h =>
        mz_ret v21 h
      else
        mz_op (mz_fR h a0 11 37) fun v6 =>
        mz_op (mz_aI h v6 0 v3) fun v7 =>
        if v7 = 2 then
          fn_X12_wide_b74 h a0
        else
          mz_op (mz_fR h a0 11 36) fun v8 =>
          mz_op (mz_aI h v8 0 v3) fun v9 =>
          if v9 = 8 then
            fn_X12_wide_b74 h a0
          else
            if x3 < 0 then
              fn_X12_wide_b96 h a0
            else
              mz_op (mz_fR h a0 11 40) fun v10 =>
              mz_op (mz_aI h v10 0 v3) fun v11 =>
              if x3 < v11 then
                mz_op (mz_fR h a0 11 36) fun v12 =>
                mz_op (mz_aI h v12 0 v3) fun v13 =>
                mz_call (fn_X12_isWidened h v13 x4) fun v14 h =>
                if v14 = 0 then
                  mz_chk (mz_is h a0 11) <| mz_call (fn_X12_failsLong h a0 7) fun v15 h =>
                  mz_ret v15 h
                else
                  mz_op (mz_fR h a0 11 43) fun v16 =>
                  mz_op (mz_aJ h v16 ((900 * v3) + x3)) fun v17 =>
                  mz_op (mz_fR h a0 11 36) fun v18 =>
                  mz_op (mz_aI h v18 0 v3) fun v19 =>
                  mz_call (fn_X12_widened h v17 v19 x4) fun v20 h =>
                  mz_ret v20 h
              else
                fn_X12_wide_b96 h a0
set_option maxHeartbeats 4000000 in
set_option maxRecDepth 100000 in
theorem pf_X12_wide_b0 (r : Int64) (Y : mz_Y p g RX12 cX12_wide 6 (some .long) "wide" (mz_AF h0) s m args meth c) (h : mz_H) (a0 : (Option Nat)) (x1 : Int32) (x2 : Int32) (x3 : Int32) (x4 : Int32) (dc ds : Nat) (hr : fn_X12_wide h a0 x1 x2 x3 x4 = some (r, hf, dc, ds)) : mz_Go l g p e s m args below meth c 4 87 DC DS h0 (some (Value.long r)) hf 6 0 [(0, false, va_rf a0), (1, false, .int x1), (2, false, .int x2), (3, false, .int x3), (4, false, .int x4)] [] h dc ds := by
  unfold fn_X12_wide at hr
  intro H locs cells slots ls hH hS hl hc hs
  have X := Y.1
  refine mz_aload_n X dX12_wide_0 rfl (mz_at hl 0 rfl) ?_
  refine lv_iconst (v := 0) X.1 X.2.1 dX12_wide_1 (by decide) ?_
  refine mz_put X hH hS fp_RX12_125 dX12_wide_2 rfl rfl hr (fun h H locs hr hH hS => ?_)
  refine mz_aload_n X dX12_wide_5 rfl (mz_at hl 0 rfl) ?_
  refine lv_iload_n X.1 X.2.1 dX12_wide_6 rfl (mz_at hl 1 rfl) ?_
  refine lv_iload_n X.1 X.2.1 dX12_wide_7 rfl (mz_at hl 2 rfl) ?_
  refine mz_kV Value.int X hH hS hl.1.1 [.int x1, .int x2] [] hr (ct_X12_isSlot l g h a0 x1 x2) mb_RX12_226 rfl im_X12_isSlot rfl (Nat.le_of_ble_eq_true rfl) ⟨Nat.le_of_ble_eq_true rfl, Nat.le_of_ble_eq_true rfl⟩ hc hs dX12_wide_8 rfl (fun v1 h H locs cells slots dc ds hr hH hS hc hs => ?_)
  refine mz_if_eq X 25 dX12_wide_11 (by decide) hr (fun hr => ?_) (fun hr => ?_)
  · refine lv_lconst (v := 0) X.1 X.2.1 dX12_wide_25 (by decide) ?_
    exact mz_lret Y dX12_wide_26 hH hS hc hs hr
  · refine lv_iload X.1 X.2.1 dX12_wide_14 (mz_at hl 4 rfl) ?_
    refine lv_iconst (v := 0) X.1 X.2.1 dX12_wide_16 (by decide) ?_
    refine lv_bipush (v := 7) X.1 X.2.1 dX12_wide_17 (by decide) ?_
    refine mz_kS Value.int X hH hS hl.1.1 [.int x4, .int 0, .int 7] [] hr (ct_X12_within l g h x4 0 7) mb_RX12_142 im_X12_within rfl (Nat.le_of_ble_eq_true rfl) ⟨Nat.le_of_ble_eq_true rfl, Nat.le_of_ble_eq_true rfl⟩ hc hs dX12_wide_19 rfl (fun v2 h H locs cells slots dc ds hr hH hS hc hs => ?_)
    refine mz_if_ne X 27 dX12_wide_22 (by decide) hr (fun hr => ?_) (fun hr => ?_)
    · refine lv_bipush (v := 16) X.1 X.2.1 dX12_wide_27 (by decide) ?_
      refine lv_iload_n X.1 X.2.1 dX12_wide_29 rfl (mz_at hl 1 rfl) ?_
      refine lv_imul X.1 X.2.1 dX12_wide_30 ?_
      refine lv_iload_n X.1 X.2.1 dX12_wide_31 rfl (mz_at hl 2 rfl) ?_
      refine lv_iadd X.1 X.2.1 dX12_wide_32 ?_
      refine mz_topi hr (fun v3 hv3 hr => ?_)
      refine mz_istore X [(5, false, .int v3), (0, false, va_rf a0), (1, false, .int x1), (2, false, .int x2), (3, false, .int x3), (4, false, .int x4)] dX12_wide_33 hl (by decide) rfl (fun ls hl => ?_)
      refine mz_aload_n X dX12_wide_35 rfl (mz_at hl 1 rfl) ?_
      refine mz_getR X hH fl_RX12_93 dX12_wide_36 hr (fun v4 hr => ?_)
      refine lv_iload X.1 X.2.1 dX12_wide_39 (mz_at hl 0 rfl) ?_
      refine mz_zald X hH dX12_wide_41 hr (fun v5 hr => ?_)
      refine mz_if_ne X 51 dX12_wide_42 (by decide) hr (fun hr => ?_) (fun hr => ?_)
      · refine mz_aload_n X dX12_wide_51 rfl (mz_at hl 1 rfl) ?_
        refine mz_getR X hH fl_RX12_87 dX12_wide_52 hr (fun v6 hr => ?_)
        refine lv_iload X.1 X.2.1 dX12_wide_55 (mz_at hl 0 rfl) ?_
        refine mz_iald X hH dX12_wide_57 hr (fun v7 hr => ?_)
        refine lv_iconst (v := 2) X.1 X.2.1 dX12_wide_58 (by decide) ?_
        refine mz_icmp_eq X 74 dX12_wide_59 (by decide) hr (fun hr => ?_) (fun hr => ?_)
        · exact pf_X12_wide_b74 r Y h a0 _ _ hr H locs cells slots ls hH hS (mz_sub hl [1] rfl) hc hs
        · refine mz_aload_n X dX12_wide_62 rfl (mz_at hl 1 rfl) ?_
          refine mz_getR X hH fl_RX12_84 dX12_wide_63 hr (fun v8 hr => ?_)
          refine lv_iload X.1 X.2.1 dX12_wide_66 (mz_at hl 0 rfl) ?_
          refine mz_iald X hH dX12_wide_68 hr (fun v9 hr => ?_)
          refine lv_bipush (v := 8) X.1 X.2.1 dX12_wide_69 (by decide) ?_
          refine mz_icmp_ne X 81 dX12_wide_71 (by decide) hr (fun hr => ?_) (fun hr => ?_)
          · refine lv_iload_n X.1 X.2.1 dX12_wide_81 rfl (mz_at hl 4 rfl) ?_
            refine mz_if_lt X 96 dX12_wide_82 (by decide) hr (fun hr => ?_) (fun hr => ?_)
            · exact pf_X12_wide_b96 r Y h a0 _ _ hr H locs cells slots ls hH hS (mz_sub hl [1] rfl) hc hs
            · refine lv_iload_n X.1 X.2.1 dX12_wide_85 rfl (mz_at hl 4 rfl) ?_
              refine mz_aload_n X dX12_wide_86 rfl (mz_at hl 1 rfl) ?_
              refine mz_getR X hH fl_RX12_96 dX12_wide_87 hr (fun v10 hr => ?_)
              refine lv_iload X.1 X.2.1 dX12_wide_90 (mz_at hl 0 rfl) ?_
              refine mz_iald X hH dX12_wide_92 hr (fun v11 hr => ?_)
              refine mz_icmp_lt X 102 dX12_wide_93 (by decide) hr (fun hr => ?_) (fun hr => ?_)
              · refine mz_aload_n X dX12_wide_102 rfl (mz_at hl 1 rfl) ?_
                refine mz_getR X hH fl_RX12_84 dX12_wide_103 hr (fun v12 hr => ?_)
                refine lv_iload X.1 X.2.1 dX12_wide_106 (mz_at hl 0 rfl) ?_
                refine mz_iald X hH dX12_wide_108 hr (fun v13 hr => ?_)
                refine lv_iload X.1 X.2.1 dX12_wide_109 (mz_at hl 5 rfl) ?_
                refine mz_kS Value.int X hH hS hl.1.1 [.int v13, .int x4] [] hr (ct_X12_isWidened l g h v13 x4) mb_RX12_265 im_X12_isWidened rfl (Nat.le_of_ble_eq_true rfl) ⟨Nat.le_of_ble_eq_true rfl, Nat.le_of_ble_eq_true rfl⟩ hc hs dX12_wide_111 rfl (fun v14 h H locs cells slots dc ds hr hH hS hc hs => ?_)
                refine mz_if_eq X 145 dX12_wide_114 (by decide) hr (fun hr => ?_) (fun hr => ?_)
                · refine mz_aload_n X dX12_wide_145 rfl (mz_at hl 1 rfl) ?_
                  refine lv_bipush (v := 7) X.1 X.2.1 dX12_wide_146 (by decide) ?_
                  refine mz_kV Value.long X hH hS hl.1.1 [.int 7] [] hr (ct_X12_failsLong l g h a0 7) mb_RX12_233 rfl im_X12_failsLong rfl (Nat.le_of_ble_eq_true rfl) ⟨Nat.le_of_ble_eq_true rfl, Nat.le_of_ble_eq_true rfl⟩ hc hs dX12_wide_148 rfl (fun v15 h H locs cells slots dc ds hr hH hS hc hs => ?_)
                  exact mz_lret Y dX12_wide_151 hH hS hc hs hr
                · refine mz_aload_n X dX12_wide_117 rfl (mz_at hl 1 rfl) ?_
                  refine mz_getR X hH fl_RX12_106 dX12_wide_118 hr (fun v16 hr => ?_)
                  refine lv_sipush (v := 900) X.1 X.2.1 dX12_wide_121 (by decide) ?_
                  refine lv_iload X.1 X.2.1 dX12_wide_124 (mz_at hl 0 rfl) ?_
                  refine lv_imul X.1 X.2.1 dX12_wide_126 ?_
                  refine lv_iload_n X.1 X.2.1 dX12_wide_127 rfl (mz_at hl 4 rfl) ?_
                  refine lv_iadd X.1 X.2.1 dX12_wide_128 ?_
                  refine mz_lald X hH dX12_wide_129 hr (fun v17 hr => ?_)
                  refine mz_aload_n X dX12_wide_130 rfl (mz_at hl 1 rfl) ?_
                  refine mz_getR X hH fl_RX12_84 dX12_wide_131 hr (fun v18 hr => ?_)
                  refine lv_iload X.1 X.2.1 dX12_wide_134 (mz_at hl 0 rfl) ?_
                  refine mz_iald X hH dX12_wide_136 hr (fun v19 hr => ?_)
                  refine lv_iload X.1 X.2.1 dX12_wide_137 (mz_at hl 5 rfl) ?_
                  refine mz_kS Value.long X hH hS hl.1.1 [.long v17, .int v19, .int x4] [] hr (ct_X12_widened l g h v17 v19 x4) mb_RX12_268 im_X12_widened rfl (Nat.le_of_ble_eq_true rfl) ⟨Nat.le_of_ble_eq_true rfl, Nat.le_of_ble_eq_true rfl⟩ hc hs dX12_wide_139 rfl (fun v20 h H locs cells slots dc ds hr hH hS hc hs => ?_)
                  refine lv_goto (tgt := 151) X.1 X.2.1 dX12_wide_142 (by decide) ?_
                  exact mz_lret Y dX12_wide_151 hH hS hc hs hr
              · exact pf_X12_wide_b96 r Y h a0 _ _ hr H locs cells slots ls hH hS (mz_sub hl [1] rfl) hc hs
          · exact pf_X12_wide_b74 r Y h a0 _ _ hr H locs cells slots ls hH hS (mz_sub hl [1] rfl) hc hs
      · refine mz_aload_n X dX12_wide_45 rfl (mz_at hl 1 rfl) ?_
        refine lv_iconst (v := 1) X.1 X.2.1 dX12_wide_46 (by decide) ?_
        refine mz_kV Value.long X hH hS hl.1.1 [.int 1] [] hr (ct_X12_failsLong l g h a0 1) mb_RX12_233 rfl im_X12_failsLong rfl (Nat.le_of_ble_eq_true rfl) ⟨Nat.le_of_ble_eq_true rfl, Nat.le_of_ble_eq_true rfl⟩ hc hs dX12_wide_47 rfl (fun v21 h H locs cells slots dc ds hr hH hS hc hs => ?_)
        exact mz_lret Y dX12_wide_50 hH hS hc hs hr
    · refine lv_lconst (v := 0) X.1 X.2.1 dX12_wide_25 (by decide) ?_
      exact mz_lret Y dX12_wide_26 hH hS hc hs hr
set_option maxRecDepth 100000 in
theorem ct_X12_wide (l : Launch) (g : mz_G) (h : mz_H) (a0 : (Option Nat)) (x1 : Int32) (x2 : Int32) (x3 : Int32) (x4 : Int32) (r : Int64) (hf : mz_H) (k n : Nat) (hr : fn_X12_wide h a0 x1 x2 x3 x4 = some (r, hf, k, n)) : mz_C l g yX12_wide cX12_wide 6 (some .long) 4 87 [va_rf a0, .int x1, .int x2, .int x3, .int x4] h (some (Value.long r)) hf k n := by
  refine mz_met (as := [(false, va_rf a0), (false, .int x1), (false, .int x2), (false, .int x3), (false, .int x4)]) (plainFor_of_name (by decide)) (mz_c1 (mz_cat_rf _) (mz_c1 rfl (mz_c1 rfl (mz_c1 rfl (mz_c1 rfl mz_c0))))) (Nat.le_of_ble_eq_true rfl) ?_
  intro p e s m args below meth c Y
  exact pf_X12_wide_b0 r Y h a0 x1 x2 x3 x4 _ _ hr
theorem dX12_copy_0 : decode cX12_copy 0 = .ok (.aload_n 0, 1) := by decide +kernel
theorem dX12_copy_1 : decode cX12_copy 1 = .ok (.iconst 0, 1) := by decide +kernel
theorem dX12_copy_2 : decode cX12_copy 2 = .ok (.putfield 125, 3) := by decide +kernel
theorem dX12_copy_5 : decode cX12_copy 5 = .ok (.aload_n 0, 1) := by decide +kernel
theorem dX12_copy_6 : decode cX12_copy 6 = .ok (.iload_n 1, 1) := by decide +kernel
theorem dX12_copy_7 : decode cX12_copy 7 = .ok (.iload_n 2, 1) := by decide +kernel
theorem dX12_copy_8 : decode cX12_copy 8 = .ok (.invokevirtual 226, 3) := by decide +kernel
theorem dX12_copy_11 : decode cX12_copy 11 = .ok (.ifCond .eq 14, 3) := by decide +kernel
theorem dX12_copy_14 : decode cX12_copy 14 = .ok (.aload_n 0, 1) := by decide +kernel
theorem dX12_copy_15 : decode cX12_copy 15 = .ok (.iload 4, 2) := by decide +kernel
theorem dX12_copy_17 : decode cX12_copy 17 = .ok (.iload 5, 2) := by decide +kernel
theorem dX12_copy_19 : decode cX12_copy 19 = .ok (.invokevirtual 226, 3) := by decide +kernel
theorem dX12_copy_22 : decode cX12_copy 22 = .ok (.ifCond .ne 5, 3) := by decide +kernel
theorem dX12_copy_25 : decode cX12_copy 25 = .ok (.iconst (-1), 1) := by decide +kernel
theorem dX12_copy_26 : decode cX12_copy 26 = .ok (.ireturn, 1) := by decide +kernel
theorem dX12_copy_27 : decode cX12_copy 27 = .ok (.bipush 16, 2) := by decide +kernel
theorem dX12_copy_29 : decode cX12_copy 29 = .ok (.iload_n 1, 1) := by decide +kernel
theorem dX12_copy_30 : decode cX12_copy 30 = .ok (.imul, 1) := by decide +kernel
theorem dX12_copy_31 : decode cX12_copy 31 = .ok (.iload_n 2, 1) := by decide +kernel
theorem dX12_copy_32 : decode cX12_copy 32 = .ok (.iadd, 1) := by decide +kernel
theorem dX12_copy_33 : decode cX12_copy 33 = .ok (.istore 8, 2) := by decide +kernel
theorem dX12_copy_35 : decode cX12_copy 35 = .ok (.bipush 16, 2) := by decide +kernel
theorem dX12_copy_37 : decode cX12_copy 37 = .ok (.iload 4, 2) := by decide +kernel
theorem dX12_copy_39 : decode cX12_copy 39 = .ok (.imul, 1) := by decide +kernel
theorem dX12_copy_40 : decode cX12_copy 40 = .ok (.iload 5, 2) := by decide +kernel
theorem dX12_copy_42 : decode cX12_copy 42 = .ok (.iadd, 1) := by decide +kernel
theorem dX12_copy_43 : decode cX12_copy 43 = .ok (.istore 9, 2) := by decide +kernel
theorem dX12_copy_45 : decode cX12_copy 45 = .ok (.aload_n 0, 1) := by decide +kernel
theorem dX12_copy_46 : decode cX12_copy 46 = .ok (.getfield 84, 3) := by decide +kernel
theorem dX12_copy_49 : decode cX12_copy 49 = .ok (.iload 8, 2) := by decide +kernel
theorem dX12_copy_51 : decode cX12_copy 51 = .ok (.iaload, 1) := by decide +kernel
theorem dX12_copy_52 : decode cX12_copy 52 = .ok (.aload_n 0, 1) := by decide +kernel
theorem dX12_copy_53 : decode cX12_copy 53 = .ok (.getfield 84, 3) := by decide +kernel
theorem dX12_copy_56 : decode cX12_copy 56 = .ok (.iload 9, 2) := by decide +kernel
theorem dX12_copy_58 : decode cX12_copy 58 = .ok (.iaload, 1) := by decide +kernel
theorem dX12_copy_59 : decode cX12_copy 59 = .ok (.if_icmp .ne 25, 3) := by decide +kernel
theorem dX12_copy_62 : decode cX12_copy 62 = .ok (.aload_n 0, 1) := by decide +kernel
theorem dX12_copy_63 : decode cX12_copy 63 = .ok (.getfield 87, 3) := by decide +kernel
theorem dX12_copy_66 : decode cX12_copy 66 = .ok (.iload 8, 2) := by decide +kernel
theorem dX12_copy_68 : decode cX12_copy 68 = .ok (.iaload, 1) := by decide +kernel
theorem dX12_copy_69 : decode cX12_copy 69 = .ok (.iconst 2, 1) := by decide +kernel
theorem dX12_copy_70 : decode cX12_copy 70 = .ok (.if_icmp .eq 14, 3) := by decide +kernel
theorem dX12_copy_73 : decode cX12_copy 73 = .ok (.aload_n 0, 1) := by decide +kernel
theorem dX12_copy_74 : decode cX12_copy 74 = .ok (.getfield 87, 3) := by decide +kernel
theorem dX12_copy_77 : decode cX12_copy 77 = .ok (.iload 9, 2) := by decide +kernel
theorem dX12_copy_79 : decode cX12_copy 79 = .ok (.iaload, 1) := by decide +kernel
theorem dX12_copy_80 : decode cX12_copy 80 = .ok (.iconst 2, 1) := by decide +kernel
theorem dX12_copy_81 : decode cX12_copy 81 = .ok (.if_icmp .ne 6, 3) := by decide +kernel
theorem dX12_copy_84 : decode cX12_copy 84 = .ok (.bipush (-3), 2) := by decide +kernel
theorem dX12_copy_86 : decode cX12_copy 86 = .ok (.ireturn, 1) := by decide +kernel
theorem dX12_copy_87 : decode cX12_copy 87 = .ok (.aload_n 0, 1) := by decide +kernel
theorem dX12_copy_88 : decode cX12_copy 88 = .ok (.getfield 93, 3) := by decide +kernel
theorem dX12_copy_91 : decode cX12_copy 91 = .ok (.iload 8, 2) := by decide +kernel
theorem dX12_copy_93 : decode cX12_copy 93 = .ok (.baload, 1) := by decide +kernel
theorem dX12_copy_94 : decode cX12_copy 94 = .ok (.ifCond .eq 13, 3) := by decide +kernel
theorem dX12_copy_97 : decode cX12_copy 97 = .ok (.aload_n 0, 1) := by decide +kernel
theorem dX12_copy_98 : decode cX12_copy 98 = .ok (.getfield 93, 3) := by decide +kernel
theorem dX12_copy_101 : decode cX12_copy 101 = .ok (.iload 9, 2) := by decide +kernel
theorem dX12_copy_103 : decode cX12_copy 103 = .ok (.baload, 1) := by decide +kernel
theorem dX12_copy_104 : decode cX12_copy 104 = .ok (.ifCond .ne 9, 3) := by decide +kernel
theorem dX12_copy_107 : decode cX12_copy 107 = .ok (.aload_n 0, 1) := by decide +kernel
theorem dX12_copy_108 : decode cX12_copy 108 = .ok (.iconst 1, 1) := by decide +kernel
theorem dX12_copy_109 : decode cX12_copy 109 = .ok (.invokevirtual 131, 3) := by decide +kernel
theorem dX12_copy_112 : decode cX12_copy 112 = .ok (.ireturn, 1) := by decide +kernel
theorem dX12_copy_113 : decode cX12_copy 113 = .ok (.iload_n 3, 1) := by decide +kernel
theorem dX12_copy_114 : decode cX12_copy 114 = .ok (.ifCond .lt 50, 3) := by decide +kernel
theorem dX12_copy_117 : decode cX12_copy 117 = .ok (.iload 6, 2) := by decide +kernel
theorem dX12_copy_119 : decode cX12_copy 119 = .ok (.ifCond .lt 45, 3) := by decide +kernel
theorem dX12_copy_122 : decode cX12_copy 122 = .ok (.iload 7, 2) := by decide +kernel
theorem dX12_copy_124 : decode cX12_copy 124 = .ok (.ifCond .lt 40, 3) := by decide +kernel
theorem dX12_copy_127 : decode cX12_copy 127 = .ok (.iload_n 3, 1) := by decide +kernel
theorem dX12_copy_128 : decode cX12_copy 128 = .ok (.i2l, 1) := by decide +kernel
theorem dX12_copy_129 : decode cX12_copy 129 = .ok (.iload 7, 2) := by decide +kernel
theorem dX12_copy_131 : decode cX12_copy 131 = .ok (.i2l, 1) := by decide +kernel
theorem dX12_copy_132 : decode cX12_copy 132 = .ok (.ladd, 1) := by decide +kernel
theorem dX12_copy_133 : decode cX12_copy 133 = .ok (.aload_n 0, 1) := by decide +kernel
theorem dX12_copy_134 : decode cX12_copy 134 = .ok (.getfield 96, 3) := by decide +kernel
theorem dX12_copy_137 : decode cX12_copy 137 = .ok (.iload 8, 2) := by decide +kernel
theorem dX12_copy_139 : decode cX12_copy 139 = .ok (.iaload, 1) := by decide +kernel
theorem dX12_copy_140 : decode cX12_copy 140 = .ok (.i2l, 1) := by decide +kernel
theorem dX12_copy_141 : decode cX12_copy 141 = .ok (.lcmp, 1) := by decide +kernel
theorem dX12_copy_142 : decode cX12_copy 142 = .ok (.ifCond .gt 22, 3) := by decide +kernel
theorem dX12_copy_145 : decode cX12_copy 145 = .ok (.iload 6, 2) := by decide +kernel
theorem dX12_copy_147 : decode cX12_copy 147 = .ok (.i2l, 1) := by decide +kernel
theorem dX12_copy_148 : decode cX12_copy 148 = .ok (.iload 7, 2) := by decide +kernel
theorem dX12_copy_150 : decode cX12_copy 150 = .ok (.i2l, 1) := by decide +kernel
theorem dX12_copy_151 : decode cX12_copy 151 = .ok (.ladd, 1) := by decide +kernel
theorem dX12_copy_152 : decode cX12_copy 152 = .ok (.aload_n 0, 1) := by decide +kernel
theorem dX12_copy_153 : decode cX12_copy 153 = .ok (.getfield 96, 3) := by decide +kernel
theorem dX12_copy_156 : decode cX12_copy 156 = .ok (.iload 9, 2) := by decide +kernel
theorem dX12_copy_158 : decode cX12_copy 158 = .ok (.iaload, 1) := by decide +kernel
theorem dX12_copy_159 : decode cX12_copy 159 = .ok (.i2l, 1) := by decide +kernel
theorem dX12_copy_160 : decode cX12_copy 160 = .ok (.lcmp, 1) := by decide +kernel
theorem dX12_copy_161 : decode cX12_copy 161 = .ok (.ifCond .le 9, 3) := by decide +kernel
theorem dX12_copy_164 : decode cX12_copy 164 = .ok (.aload_n 0, 1) := by decide +kernel
theorem dX12_copy_165 : decode cX12_copy 165 = .ok (.iconst 3, 1) := by decide +kernel
theorem dX12_copy_166 : decode cX12_copy 166 = .ok (.invokevirtual 131, 3) := by decide +kernel
theorem dX12_copy_169 : decode cX12_copy 169 = .ok (.ireturn, 1) := by decide +kernel
theorem dX12_copy_170 : decode cX12_copy 170 = .ok (.iload 6, 2) := by decide +kernel
theorem dX12_copy_172 : decode cX12_copy 172 = .ok (.iload_n 3, 1) := by decide +kernel
theorem dX12_copy_173 : decode cX12_copy 173 = .ok (.if_icmp .gt 7, 3) := by decide +kernel
theorem dX12_copy_176 : decode cX12_copy 176 = .ok (.iconst 1, 1) := by decide +kernel
theorem dX12_copy_177 : decode cX12_copy 177 = .ok (.goto 4, 3) := by decide +kernel
theorem dX12_copy_180 : decode cX12_copy 180 = .ok (.iconst 0, 1) := by decide +kernel
theorem dX12_copy_181 : decode cX12_copy 181 = .ok (.istore 10, 2) := by decide +kernel
theorem dX12_copy_183 : decode cX12_copy 183 = .ok (.iconst 0, 1) := by decide +kernel
theorem dX12_copy_184 : decode cX12_copy 184 = .ok (.istore 11, 2) := by decide +kernel
theorem dX12_copy_186 : decode cX12_copy 186 = .ok (.iload 11, 2) := by decide +kernel
theorem dX12_copy_188 : decode cX12_copy 188 = .ok (.iload 7, 2) := by decide +kernel
theorem dX12_copy_190 : decode cX12_copy 190 = .ok (.if_icmp .ge 61, 3) := by decide +kernel
theorem dX12_copy_193 : decode cX12_copy 193 = .ok (.iload 10, 2) := by decide +kernel
theorem dX12_copy_195 : decode cX12_copy 195 = .ok (.ifCond .eq 8, 3) := by decide +kernel
theorem dX12_copy_198 : decode cX12_copy 198 = .ok (.iload 11, 2) := by decide +kernel
theorem dX12_copy_200 : decode cX12_copy 200 = .ok (.goto 10, 3) := by decide +kernel
theorem dX12_copy_203 : decode cX12_copy 203 = .ok (.iload 7, 2) := by decide +kernel
theorem dX12_copy_205 : decode cX12_copy 205 = .ok (.iconst 1, 1) := by decide +kernel
theorem dX12_copy_206 : decode cX12_copy 206 = .ok (.isub, 1) := by decide +kernel
theorem dX12_copy_207 : decode cX12_copy 207 = .ok (.iload 11, 2) := by decide +kernel
theorem dX12_copy_209 : decode cX12_copy 209 = .ok (.isub, 1) := by decide +kernel
theorem dX12_copy_210 : decode cX12_copy 210 = .ok (.istore 12, 2) := by decide +kernel
theorem dX12_copy_212 : decode cX12_copy 212 = .ok (.aload_n 0, 1) := by decide +kernel
theorem dX12_copy_213 : decode cX12_copy 213 = .ok (.getfield 106, 3) := by decide +kernel
theorem dX12_copy_216 : decode cX12_copy 216 = .ok (.sipush 900, 3) := by decide +kernel
theorem dX12_copy_219 : decode cX12_copy 219 = .ok (.iload 9, 2) := by decide +kernel
theorem dX12_copy_221 : decode cX12_copy 221 = .ok (.imul, 1) := by decide +kernel
theorem dX12_copy_222 : decode cX12_copy 222 = .ok (.iload 6, 2) := by decide +kernel
theorem dX12_copy_224 : decode cX12_copy 224 = .ok (.iadd, 1) := by decide +kernel
theorem dX12_copy_225 : decode cX12_copy 225 = .ok (.iload 12, 2) := by decide +kernel
theorem dX12_copy_227 : decode cX12_copy 227 = .ok (.iadd, 1) := by decide +kernel
theorem dX12_copy_228 : decode cX12_copy 228 = .ok (.aload_n 0, 1) := by decide +kernel
theorem dX12_copy_229 : decode cX12_copy 229 = .ok (.getfield 106, 3) := by decide +kernel
theorem dX12_copy_232 : decode cX12_copy 232 = .ok (.sipush 900, 3) := by decide +kernel
theorem dX12_copy_235 : decode cX12_copy 235 = .ok (.iload 8, 2) := by decide +kernel
theorem dX12_copy_237 : decode cX12_copy 237 = .ok (.imul, 1) := by decide +kernel
theorem dX12_copy_238 : decode cX12_copy 238 = .ok (.iload_n 3, 1) := by decide +kernel
theorem dX12_copy_239 : decode cX12_copy 239 = .ok (.iadd, 1) := by decide +kernel
theorem dX12_copy_240 : decode cX12_copy 240 = .ok (.iload 12, 2) := by decide +kernel
theorem dX12_copy_242 : decode cX12_copy 242 = .ok (.iadd, 1) := by decide +kernel
theorem dX12_copy_243 : decode cX12_copy 243 = .ok (.laload, 1) := by decide +kernel
theorem dX12_copy_244 : decode cX12_copy 244 = .ok (.lastore, 1) := by decide +kernel
theorem dX12_copy_245 : decode cX12_copy 245 = .ok (.iinc 11 1, 3) := by decide +kernel
theorem dX12_copy_248 : decode cX12_copy 248 = .ok (.goto (-62), 3) := by decide +kernel
theorem dX12_copy_251 : decode cX12_copy 251 = .ok (.iload 7, 2) := by decide +kernel
theorem dX12_copy_253 : decode cX12_copy 253 = .ok (.ireturn, 1) := by decide +kernel
def fn_X12_copy_b210 (rc186 : mz_H → (Option Nat) → Int32 → Int32 → Int32 → Int32 → Int32 → Int32 → Int32 → mz_Res Int32) (h : mz_H) (a0 : (Option Nat)) (x3 : Int32) (x6 : Int32) (x7 : Int32) (x8 : Int32) (x9 : Int32) (x10 : Int32) (x11 : Int32) (s0 : Int32) : mz_Res Int32 :=
  mz_op (mz_fR h a0 11 43) fun v1 =>
  mz_op (mz_fR h a0 11 43) fun v2 =>
  mz_op (mz_aJ h v2 (((900 * x8) + x3) + s0)) fun v3 =>
  mz_op (mz_sJ h v1 (((900 * x9) + x6) + s0) v3) fun h =>
  mz_op (some (x11 + 1)) fun v4 =>
  rc186 h a0 x3 x6 x7 x8 x9 x10 v4
set_option maxHeartbeats 4000000 in
set_option maxRecDepth 100000 in
theorem pf_X12_copy_b210 (r : Int32) (Y : mz_Y p g RX12 cX12_copy 13 (some .int) "copy" (mz_AF h0) s m args meth c) {rc186 : mz_H → (Option Nat) → Int32 → Int32 → Int32 → Int32 → Int32 → Int32 → Int32 → mz_Res Int32} (hrc186 : ∀ (h : mz_H) (a0 : (Option Nat)) (x3 : Int32) (x6 : Int32) (x7 : Int32) (x8 : Int32) (x9 : Int32) (x10 : Int32) (x11 : Int32) (dc ds : Nat), rc186 h a0 x3 x6 x7 x8 x9 x10 x11 = some (r, hf, dc, ds) → mz_Go l g p e s m args below meth c 2 43 DC DS h0 (some (Value.int r)) hf 13 186 [(0, false, va_rf a0), (3, false, .int x3), (6, false, .int x6), (7, false, .int x7), (8, false, .int x8), (9, false, .int x9), (10, false, .int x10), (11, false, .int x11)] [] h dc ds) (h : mz_H) (a0 : (Option Nat)) (x3 : Int32) (x6 : Int32) (x7 : Int32) (x8 : Int32) (x9 : Int32) (x10 : Int32) (x11 : Int32) (s0 : Int32) (dc ds : Nat) (hr : fn_X12_copy_b210 rc186 h a0 x3 x6 x7 x8 x9 x10 x11 s0 = some (r, hf, dc, ds)) : mz_Go l g p e s m args below meth c 2 43 DC DS h0 (some (Value.int r)) hf 13 210 [(0, false, va_rf a0), (3, false, .int x3), (6, false, .int x6), (7, false, .int x7), (8, false, .int x8), (9, false, .int x9), (10, false, .int x10), (11, false, .int x11)] [.int s0] h dc ds := by
  unfold fn_X12_copy_b210 at hr
  intro H locs cells slots ls hH hS hl hc hs
  have X := Y.1
  refine mz_istore X [(12, false, .int s0), (0, false, va_rf a0), (3, false, .int x3), (6, false, .int x6), (7, false, .int x7), (8, false, .int x8), (9, false, .int x9), (10, false, .int x10), (11, false, .int x11)] dX12_copy_210 hl (by decide) rfl (fun ls hl => ?_)
  refine mz_aload_n X dX12_copy_212 rfl (mz_at hl 1 rfl) ?_
  refine mz_getR X hH fl_RX12_106 dX12_copy_213 hr (fun v1 hr => ?_)
  refine lv_sipush (v := 900) X.1 X.2.1 dX12_copy_216 (by decide) ?_
  refine lv_iload X.1 X.2.1 dX12_copy_219 (mz_at hl 6 rfl) ?_
  refine lv_imul X.1 X.2.1 dX12_copy_221 ?_
  refine lv_iload X.1 X.2.1 dX12_copy_222 (mz_at hl 3 rfl) ?_
  refine lv_iadd X.1 X.2.1 dX12_copy_224 ?_
  refine lv_iload X.1 X.2.1 dX12_copy_225 (mz_at hl 0 rfl) ?_
  refine lv_iadd X.1 X.2.1 dX12_copy_227 ?_
  refine mz_aload_n X dX12_copy_228 rfl (mz_at hl 1 rfl) ?_
  refine mz_getR X hH fl_RX12_106 dX12_copy_229 hr (fun v2 hr => ?_)
  refine lv_sipush (v := 900) X.1 X.2.1 dX12_copy_232 (by decide) ?_
  refine lv_iload X.1 X.2.1 dX12_copy_235 (mz_at hl 5 rfl) ?_
  refine lv_imul X.1 X.2.1 dX12_copy_237 ?_
  refine lv_iload_n X.1 X.2.1 dX12_copy_238 rfl (mz_at hl 2 rfl) ?_
  refine lv_iadd X.1 X.2.1 dX12_copy_239 ?_
  refine lv_iload X.1 X.2.1 dX12_copy_240 (mz_at hl 0 rfl) ?_
  refine lv_iadd X.1 X.2.1 dX12_copy_242 ?_
  refine mz_lald X hH dX12_copy_243 hr (fun v3 hr => ?_)
  refine mz_last X hH hS dX12_copy_244 hr (fun h H locs hr hH hS => ?_)
  obtain ⟨v4, hv4, hr⟩ := mz_op_some hr
  have hv4 := Option.some.inj hv4
  refine mz_iinc (k := 8) X [(11, false, .int v4), (12, false, .int s0), (0, false, va_rf a0), (3, false, .int x3), (6, false, .int x6), (7, false, .int x7), (8, false, .int x8), (9, false, .int x9), (10, false, .int x10)] v4 dX12_copy_245 hl rfl hv4 (by decide) rfl (fun ls hl => ?_)
  refine lv_goto (tgt := 186) X.1 X.2.1 dX12_copy_248 (by decide) ?_
  exact hrc186 h a0 x3 x6 x7 x8 x9 x10 v4 _ _ hr H locs cells slots ls hH hS (mz_sub hl [2, 3, 4, 5, 6, 7, 8, 0] rfl) hc hs
def fn_X12_copy_b186 : Nat → mz_H → (Option Nat) → Int32 → Int32 → Int32 → Int32 → Int32 → Int32 → Int32 → mz_Res Int32
  | 0, _, _, _, _, _, _, _, _, _ => none
  | n + 1, h, a0, x3, x6, x7, x8, x9, x10, x11 =>
    if x7 ≤ x11 then
      mz_ret x7 h
    else
      if x10 = 0 then
        fn_X12_copy_b210 (fn_X12_copy_b186 n) h a0 x3 x6 x7 x8 x9 x10 x11 ((x7 - 1) - x11)
      else
        fn_X12_copy_b210 (fn_X12_copy_b186 n) h a0 x3 x6 x7 x8 x9 x10 x11 x11
set_option maxHeartbeats 4000000 in
set_option maxRecDepth 100000 in
theorem pf_X12_copy_b186 (r : Int32) (Y : mz_Y p g RX12 cX12_copy 13 (some .int) "copy" (mz_AF h0) s m args meth c) : ∀ (n : Nat) (h : mz_H) (a0 : (Option Nat)) (x3 : Int32) (x6 : Int32) (x7 : Int32) (x8 : Int32) (x9 : Int32) (x10 : Int32) (x11 : Int32) (dc ds : Nat), fn_X12_copy_b186 n h a0 x3 x6 x7 x8 x9 x10 x11 = some (r, hf, dc, ds) → mz_Go l g p e s m args below meth c 2 43 DC DS h0 (some (Value.int r)) hf 13 186 [(0, false, va_rf a0), (3, false, .int x3), (6, false, .int x6), (7, false, .int x7), (8, false, .int x8), (9, false, .int x9), (10, false, .int x10), (11, false, .int x11)] [] h dc ds := by
  have X := Y.1
  intro n
  induction n with
  | zero => intro h a0 x3 x6 x7 x8 x9 x10 x11 dc ds hr; simp [fn_X12_copy_b186] at hr
  | succ n ih =>
    intro h a0 x3 x6 x7 x8 x9 x10 x11 dc ds hr
    rw [fn_X12_copy_b186] at hr
    intro H locs cells slots ls hH hS hl hc hs
    refine lv_iload X.1 X.2.1 dX12_copy_186 (mz_at hl 7 rfl) ?_
    refine lv_iload X.1 X.2.1 dX12_copy_188 (mz_at hl 3 rfl) ?_
    refine mz_icmp_ge X 251 dX12_copy_190 (by decide) hr (fun hr => ?_) (fun hr => ?_)
    · refine lv_iload X.1 X.2.1 dX12_copy_251 (mz_at hl 3 rfl) ?_
      exact mz_iret Y dX12_copy_253 hH hS hc hs hr
    · refine lv_iload X.1 X.2.1 dX12_copy_193 (mz_at hl 6 rfl) ?_
      refine mz_if_eq X 203 dX12_copy_195 (by decide) hr (fun hr => ?_) (fun hr => ?_)
      · refine lv_iload X.1 X.2.1 dX12_copy_203 (mz_at hl 3 rfl) ?_
        refine lv_iconst (v := 1) X.1 X.2.1 dX12_copy_205 (by decide) ?_
        refine lv_isub X.1 X.2.1 dX12_copy_206 ?_
        refine lv_iload X.1 X.2.1 dX12_copy_207 (mz_at hl 7 rfl) ?_
        refine lv_isub X.1 X.2.1 dX12_copy_209 ?_
        exact pf_X12_copy_b210 r Y ih h a0 x3 x6 x7 x8 x9 x10 x11 ((x7 - 1) - x11) _ _ hr H locs cells slots ls hH hS (mz_sub hl [0, 1, 2, 3, 4, 5, 6, 7] rfl) hc hs
      · refine lv_iload X.1 X.2.1 dX12_copy_198 (mz_at hl 7 rfl) ?_
        refine lv_goto (tgt := 210) X.1 X.2.1 dX12_copy_200 (by decide) ?_
        exact pf_X12_copy_b210 r Y ih h a0 x3 x6 x7 x8 x9 x10 x11 x11 _ _ hr H locs cells slots ls hH hS (mz_sub hl [0, 1, 2, 3, 4, 5, 6, 7] rfl) hc hs
def fn_X12_copy_b181 (h : mz_H) (a0 : (Option Nat)) (x3 : Int32) (x6 : Int32) (x7 : Int32) (x8 : Int32) (x9 : Int32) (s0 : Int32) : mz_Res Int32 :=
  fn_X12_copy_b186 1001 h a0 x3 x6 x7 x8 x9 s0 0
set_option maxHeartbeats 4000000 in
set_option maxRecDepth 100000 in
theorem pf_X12_copy_b181 (r : Int32) (Y : mz_Y p g RX12 cX12_copy 13 (some .int) "copy" (mz_AF h0) s m args meth c) (h : mz_H) (a0 : (Option Nat)) (x3 : Int32) (x6 : Int32) (x7 : Int32) (x8 : Int32) (x9 : Int32) (s0 : Int32) (dc ds : Nat) (hr : fn_X12_copy_b181 h a0 x3 x6 x7 x8 x9 s0 = some (r, hf, dc, ds)) : mz_Go l g p e s m args below meth c 2 43 DC DS h0 (some (Value.int r)) hf 13 181 [(0, false, va_rf a0), (3, false, .int x3), (6, false, .int x6), (7, false, .int x7), (8, false, .int x8), (9, false, .int x9)] [.int s0] h dc ds := by
  unfold fn_X12_copy_b181 at hr
  intro H locs cells slots ls hH hS hl hc hs
  have X := Y.1
  refine mz_istore X [(10, false, .int s0), (0, false, va_rf a0), (3, false, .int x3), (6, false, .int x6), (7, false, .int x7), (8, false, .int x8), (9, false, .int x9)] dX12_copy_181 hl (by decide) rfl (fun ls hl => ?_)
  refine lv_iconst (v := 0) X.1 X.2.1 dX12_copy_183 (by decide) ?_
  refine mz_istore X [(11, false, .int 0), (10, false, .int s0), (0, false, va_rf a0), (3, false, .int x3), (6, false, .int x6), (7, false, .int x7), (8, false, .int x8), (9, false, .int x9)] dX12_copy_184 hl (by decide) rfl (fun ls hl => ?_)
  exact pf_X12_copy_b186 r Y 1001 h a0 x3 x6 x7 x8 x9 s0 0 _ _ hr H locs cells slots ls hH hS (mz_sub hl [2, 3, 4, 5, 6, 7, 1, 0] rfl) hc hs
def fn_X12_copy_b164 (h : mz_H) (a0 : (Option Nat)) : mz_Res Int32 :=
  mz_chk (mz_is h a0 11) <| mz_call (fn_X12_fails h a0 3) fun v1 h =>
  mz_ret v1 h
set_option maxHeartbeats 4000000 in
set_option maxRecDepth 100000 in
theorem pf_X12_copy_b164 (r : Int32) (Y : mz_Y p g RX12 cX12_copy 13 (some .int) "copy" (mz_AF h0) s m args meth c) (h : mz_H) (a0 : (Option Nat)) (dc ds : Nat) (hr : fn_X12_copy_b164 h a0 = some (r, hf, dc, ds)) : mz_Go l g p e s m args below meth c 2 43 DC DS h0 (some (Value.int r)) hf 13 164 [(0, false, va_rf a0)] [] h dc ds := by
  unfold fn_X12_copy_b164 at hr
  intro H locs cells slots ls hH hS hl hc hs
  have X := Y.1
  refine mz_aload_n X dX12_copy_164 rfl (mz_at hl 0 rfl) ?_
  refine lv_iconst (v := 3) X.1 X.2.1 dX12_copy_165 (by decide) ?_
  refine mz_kV Value.int X hH hS hl.1.1 [.int 3] [] hr (ct_X12_fails l g h a0 3) mb_RX12_131 rfl im_X12_fails rfl (Nat.le_of_ble_eq_true rfl) ⟨Nat.le_of_ble_eq_true rfl, Nat.le_of_ble_eq_true rfl⟩ hc hs dX12_copy_166 rfl (fun v1 h H locs cells slots dc ds hr hH hS hc hs => ?_)
  exact mz_iret Y dX12_copy_169 hH hS hc hs hr
def fn_X12_copy_b107 (h : mz_H) (a0 : (Option Nat)) : mz_Res Int32 :=
  mz_chk (mz_is h a0 11) <| mz_call (fn_X12_fails h a0 1) fun v1 h =>
  mz_ret v1 h
set_option maxHeartbeats 4000000 in
set_option maxRecDepth 100000 in
theorem pf_X12_copy_b107 (r : Int32) (Y : mz_Y p g RX12 cX12_copy 13 (some .int) "copy" (mz_AF h0) s m args meth c) (h : mz_H) (a0 : (Option Nat)) (dc ds : Nat) (hr : fn_X12_copy_b107 h a0 = some (r, hf, dc, ds)) : mz_Go l g p e s m args below meth c 2 43 DC DS h0 (some (Value.int r)) hf 13 107 [(0, false, va_rf a0)] [] h dc ds := by
  unfold fn_X12_copy_b107 at hr
  intro H locs cells slots ls hH hS hl hc hs
  have X := Y.1
  refine mz_aload_n X dX12_copy_107 rfl (mz_at hl 0 rfl) ?_
  refine lv_iconst (v := 1) X.1 X.2.1 dX12_copy_108 (by decide) ?_
  refine mz_kV Value.int X hH hS hl.1.1 [.int 1] [] hr (ct_X12_fails l g h a0 1) mb_RX12_131 rfl im_X12_fails rfl (Nat.le_of_ble_eq_true rfl) ⟨Nat.le_of_ble_eq_true rfl, Nat.le_of_ble_eq_true rfl⟩ hc hs dX12_copy_109 rfl (fun v1 h H locs cells slots dc ds hr hH hS hc hs => ?_)
  exact mz_iret Y dX12_copy_112 hH hS hc hs hr
def fn_X12_copy (h : mz_H) (a0 : (Option Nat)) (x1 : Int32) (x2 : Int32) (x3 : Int32) (x4 : Int32) (x5 : Int32) (x6 : Int32) (x7 : Int32) : mz_Res Int32 :=
  mz_op (mz_pF h a0 11 0 (Value.int 0)) fun h =>
  mz_chk (mz_is h a0 11) <| mz_call (fn_X12_isSlot h a0 x1 x2) fun v1 h =>
  if v1 = 0 then
    mz_ret (-1) h
  else
    mz_chk (mz_is h a0 11) <| mz_call (fn_X12_isSlot h a0 x4 x5) fun v2 h =>
    if v2 = 0 then
      mz_ret (-1) h
    else
      mz_op (some ((16 * x1) + x2)) fun v3 =>
      mz_op (some ((16 * x4) + x5)) fun v4 =>
      mz_op (mz_fR h a0 11 36) fun v5 =>
      mz_op (mz_aI h v5 0 v3) fun v6 =>
      mz_op (mz_fR h a0 11 36) fun v7 =>
      mz_op (mz_aI h v7 0 v4) fun v8 =>
      if v6 = v8 then
        mz_op (mz_fR h a0 11 37) fun v9 =>
        mz_op (mz_aI h v9 0 v3) fun v10 =>
        if v10 = 2 then
          mz_ret (-3) h
        else
          mz_op (mz_fR h a0 11 37) fun v11 =>
          mz_op (mz_aI h v11 0 v4) fun v12 =>
          if v12 = 2 then
            mz_ret (-3) h
          else
            mz_op (mz_fR h a0 11 39) fun v13 =>
            mz_op (mz_aI h v13 2 v3) fun v14 =>
            if v14 = 0 then
              fn_X12_copy_b107 h a0
            else
              mz_op (mz_fR h a0 11 39) fun v15 =>
              mz_op (mz_aI h v15 2 v4) fun v16 =>
              if v16 = 0 then
                fn_X12_copy_b107 h a0
              else
                if x3 < 0 then
                  fn_X12_copy_b164 h a0
                else
                  if x6 < 0 then
                    fn_X12_copy_b164 h a0
                  else
                    if x7 < 0 then
                      fn_X12_copy_b164 h a0
                    else
                      mz_op (mz_fR h a0 11 40) fun v17 =>
                      mz_op (mz_aI h v17 0 v3) fun v18 =>
                      if 0 < (lg_cmp (((x3 : Int32).toInt64) + ((x7 : Int32).toInt64)) ((v18 : Int32).toInt64)) then
                        fn_X12_copy_b164 h a0
                      else
                        mz_op (mz_fR h a0 11 40) fun v19 =>
                        mz_op (mz_aI h v19 0 v4) fun v20 =>
                        if (lg_cmp (((x6 : Int32).toInt64) + ((x7 : Int32).toInt64)) ((v20 : Int32).toInt64)) ≤ 0 then
                          if x3 < x6 then
                            fn_X12_copy_b181 h a0 x3 x6 x7 v3 v4 0
                          else
                            fn_X12_copy_b181 h a0 x3 x6 x7 v3 v4 1
                        else
                          fn_X12_copy_b164 h a0
      else
        mz_ret (-3) h
set_option maxHeartbeats 4000000 in
set_option maxRecDepth 100000 in
theorem pf_X12_copy_b0 (r : Int32) (Y : mz_Y p g RX12 cX12_copy 13 (some .int) "copy" (mz_AF h0) s m args meth c) (h : mz_H) (a0 : (Option Nat)) (x1 : Int32) (x2 : Int32) (x3 : Int32) (x4 : Int32) (x5 : Int32) (x6 : Int32) (x7 : Int32) (dc ds : Nat) (hr : fn_X12_copy h a0 x1 x2 x3 x4 x5 x6 x7 = some (r, hf, dc, ds)) : mz_Go l g p e s m args below meth c 2 43 DC DS h0 (some (Value.int r)) hf 13 0 [(0, false, va_rf a0), (1, false, .int x1), (2, false, .int x2), (3, false, .int x3), (4, false, .int x4), (5, false, .int x5), (6, false, .int x6), (7, false, .int x7)] [] h dc ds := by
  unfold fn_X12_copy at hr
  intro H locs cells slots ls hH hS hl hc hs
  have X := Y.1
  refine mz_aload_n X dX12_copy_0 rfl (mz_at hl 0 rfl) ?_
  refine lv_iconst (v := 0) X.1 X.2.1 dX12_copy_1 (by decide) ?_
  refine mz_put X hH hS fp_RX12_125 dX12_copy_2 rfl rfl hr (fun h H locs hr hH hS => ?_)
  refine mz_aload_n X dX12_copy_5 rfl (mz_at hl 0 rfl) ?_
  refine lv_iload_n X.1 X.2.1 dX12_copy_6 rfl (mz_at hl 1 rfl) ?_
  refine lv_iload_n X.1 X.2.1 dX12_copy_7 rfl (mz_at hl 2 rfl) ?_
  refine mz_kV Value.int X hH hS hl.1.1 [.int x1, .int x2] [] hr (ct_X12_isSlot l g h a0 x1 x2) mb_RX12_226 rfl im_X12_isSlot rfl (Nat.le_of_ble_eq_true rfl) ⟨Nat.le_of_ble_eq_true rfl, Nat.le_of_ble_eq_true rfl⟩ hc hs dX12_copy_8 rfl (fun v1 h H locs cells slots dc ds hr hH hS hc hs => ?_)
  refine mz_if_eq X 25 dX12_copy_11 (by decide) hr (fun hr => ?_) (fun hr => ?_)
  · refine lv_iconst (v := (-1)) X.1 X.2.1 dX12_copy_25 (by decide) ?_
    exact mz_iret Y dX12_copy_26 hH hS hc hs hr
  · refine mz_aload_n X dX12_copy_14 rfl (mz_at hl 0 rfl) ?_
    refine lv_iload X.1 X.2.1 dX12_copy_15 (mz_at hl 4 rfl) ?_
    refine lv_iload X.1 X.2.1 dX12_copy_17 (mz_at hl 5 rfl) ?_
    refine mz_kV Value.int X hH hS hl.1.1 [.int x4, .int x5] [] hr (ct_X12_isSlot l g h a0 x4 x5) mb_RX12_226 rfl im_X12_isSlot rfl (Nat.le_of_ble_eq_true rfl) ⟨Nat.le_of_ble_eq_true rfl, Nat.le_of_ble_eq_true rfl⟩ hc hs dX12_copy_19 rfl (fun v2 h H locs cells slots dc ds hr hH hS hc hs => ?_)
    refine mz_if_ne X 27 dX12_copy_22 (by decide) hr (fun hr => ?_) (fun hr => ?_)
    · refine lv_bipush (v := 16) X.1 X.2.1 dX12_copy_27 (by decide) ?_
      refine lv_iload_n X.1 X.2.1 dX12_copy_29 rfl (mz_at hl 1 rfl) ?_
      refine lv_imul X.1 X.2.1 dX12_copy_30 ?_
      refine lv_iload_n X.1 X.2.1 dX12_copy_31 rfl (mz_at hl 2 rfl) ?_
      refine lv_iadd X.1 X.2.1 dX12_copy_32 ?_
      refine mz_topi hr (fun v3 hv3 hr => ?_)
      refine mz_istore X [(8, false, .int v3), (0, false, va_rf a0), (1, false, .int x1), (2, false, .int x2), (3, false, .int x3), (4, false, .int x4), (5, false, .int x5), (6, false, .int x6), (7, false, .int x7)] dX12_copy_33 hl (by decide) rfl (fun ls hl => ?_)
      refine lv_bipush (v := 16) X.1 X.2.1 dX12_copy_35 (by decide) ?_
      refine lv_iload X.1 X.2.1 dX12_copy_37 (mz_at hl 5 rfl) ?_
      refine lv_imul X.1 X.2.1 dX12_copy_39 ?_
      refine lv_iload X.1 X.2.1 dX12_copy_40 (mz_at hl 6 rfl) ?_
      refine lv_iadd X.1 X.2.1 dX12_copy_42 ?_
      refine mz_topi hr (fun v4 hv4 hr => ?_)
      refine mz_istore X [(9, false, .int v4), (8, false, .int v3), (0, false, va_rf a0), (1, false, .int x1), (2, false, .int x2), (3, false, .int x3), (4, false, .int x4), (5, false, .int x5), (6, false, .int x6), (7, false, .int x7)] dX12_copy_43 hl (by decide) rfl (fun ls hl => ?_)
      refine mz_aload_n X dX12_copy_45 rfl (mz_at hl 2 rfl) ?_
      refine mz_getR X hH fl_RX12_84 dX12_copy_46 hr (fun v5 hr => ?_)
      refine lv_iload X.1 X.2.1 dX12_copy_49 (mz_at hl 1 rfl) ?_
      refine mz_iald X hH dX12_copy_51 hr (fun v6 hr => ?_)
      refine mz_aload_n X dX12_copy_52 rfl (mz_at hl 2 rfl) ?_
      refine mz_getR X hH fl_RX12_84 dX12_copy_53 hr (fun v7 hr => ?_)
      refine lv_iload X.1 X.2.1 dX12_copy_56 (mz_at hl 0 rfl) ?_
      refine mz_iald X hH dX12_copy_58 hr (fun v8 hr => ?_)
      refine mz_icmp_ne X 84 dX12_copy_59 (by decide) hr (fun hr => ?_) (fun hr => ?_)
      · refine lv_bipush (v := (-3)) X.1 X.2.1 dX12_copy_84 (by decide) ?_
        exact mz_iret Y dX12_copy_86 hH hS hc hs hr
      · refine mz_aload_n X dX12_copy_62 rfl (mz_at hl 2 rfl) ?_
        refine mz_getR X hH fl_RX12_87 dX12_copy_63 hr (fun v9 hr => ?_)
        refine lv_iload X.1 X.2.1 dX12_copy_66 (mz_at hl 1 rfl) ?_
        refine mz_iald X hH dX12_copy_68 hr (fun v10 hr => ?_)
        refine lv_iconst (v := 2) X.1 X.2.1 dX12_copy_69 (by decide) ?_
        refine mz_icmp_eq X 84 dX12_copy_70 (by decide) hr (fun hr => ?_) (fun hr => ?_)
        · refine lv_bipush (v := (-3)) X.1 X.2.1 dX12_copy_84 (by decide) ?_
          exact mz_iret Y dX12_copy_86 hH hS hc hs hr
        · refine mz_aload_n X dX12_copy_73 rfl (mz_at hl 2 rfl) ?_
          refine mz_getR X hH fl_RX12_87 dX12_copy_74 hr (fun v11 hr => ?_)
          refine lv_iload X.1 X.2.1 dX12_copy_77 (mz_at hl 0 rfl) ?_
          refine mz_iald X hH dX12_copy_79 hr (fun v12 hr => ?_)
          refine lv_iconst (v := 2) X.1 X.2.1 dX12_copy_80 (by decide) ?_
          refine mz_icmp_ne X 87 dX12_copy_81 (by decide) hr (fun hr => ?_) (fun hr => ?_)
          · refine mz_aload_n X dX12_copy_87 rfl (mz_at hl 2 rfl) ?_
            refine mz_getR X hH fl_RX12_93 dX12_copy_88 hr (fun v13 hr => ?_)
            refine lv_iload X.1 X.2.1 dX12_copy_91 (mz_at hl 1 rfl) ?_
            refine mz_zald X hH dX12_copy_93 hr (fun v14 hr => ?_)
            refine mz_if_eq X 107 dX12_copy_94 (by decide) hr (fun hr => ?_) (fun hr => ?_)
            · exact pf_X12_copy_b107 r Y h a0 _ _ hr H locs cells slots ls hH hS (mz_sub hl [2] rfl) hc hs
            · refine mz_aload_n X dX12_copy_97 rfl (mz_at hl 2 rfl) ?_
              refine mz_getR X hH fl_RX12_93 dX12_copy_98 hr (fun v15 hr => ?_)
              refine lv_iload X.1 X.2.1 dX12_copy_101 (mz_at hl 0 rfl) ?_
              refine mz_zald X hH dX12_copy_103 hr (fun v16 hr => ?_)
              refine mz_if_ne X 113 dX12_copy_104 (by decide) hr (fun hr => ?_) (fun hr => ?_)
              · refine lv_iload_n X.1 X.2.1 dX12_copy_113 rfl (mz_at hl 5 rfl) ?_
                refine mz_if_lt X 164 dX12_copy_114 (by decide) hr (fun hr => ?_) (fun hr => ?_)
                · exact pf_X12_copy_b164 r Y h a0 _ _ hr H locs cells slots ls hH hS (mz_sub hl [2] rfl) hc hs
                · refine lv_iload X.1 X.2.1 dX12_copy_117 (mz_at hl 8 rfl) ?_
                  refine mz_if_lt X 164 dX12_copy_119 (by decide) hr (fun hr => ?_) (fun hr => ?_)
                  · exact pf_X12_copy_b164 r Y h a0 _ _ hr H locs cells slots ls hH hS (mz_sub hl [2] rfl) hc hs
                  · refine lv_iload X.1 X.2.1 dX12_copy_122 (mz_at hl 9 rfl) ?_
                    refine mz_if_lt X 164 dX12_copy_124 (by decide) hr (fun hr => ?_) (fun hr => ?_)
                    · exact pf_X12_copy_b164 r Y h a0 _ _ hr H locs cells slots ls hH hS (mz_sub hl [2] rfl) hc hs
                    · refine lv_iload_n X.1 X.2.1 dX12_copy_127 rfl (mz_at hl 5 rfl) ?_
                      refine lv_i2l (v := ((x3 : Int32).toInt64)) X.1 X.2.1 dX12_copy_128 rfl ?_
                      refine lv_iload X.1 X.2.1 dX12_copy_129 (mz_at hl 9 rfl) ?_
                      refine lv_i2l (v := ((x7 : Int32).toInt64)) X.1 X.2.1 dX12_copy_131 rfl ?_
                      refine lv_ladd X.1 X.2.1 dX12_copy_132 ?_
                      refine mz_aload_n X dX12_copy_133 rfl (mz_at hl 2 rfl) ?_
                      refine mz_getR X hH fl_RX12_96 dX12_copy_134 hr (fun v17 hr => ?_)
                      refine lv_iload X.1 X.2.1 dX12_copy_137 (mz_at hl 1 rfl) ?_
                      refine mz_iald X hH dX12_copy_139 hr (fun v18 hr => ?_)
                      refine lv_i2l (v := ((v18 : Int32).toInt64)) X.1 X.2.1 dX12_copy_140 rfl ?_
                      refine W.lcmp X.1 X.2.1 dX12_copy_141 ?_
                      refine mz_if_gt X 164 dX12_copy_142 (by decide) hr (fun hr => ?_) (fun hr => ?_)
                      · exact pf_X12_copy_b164 r Y h a0 _ _ hr H locs cells slots ls hH hS (mz_sub hl [2] rfl) hc hs
                      · refine lv_iload X.1 X.2.1 dX12_copy_145 (mz_at hl 8 rfl) ?_
                        refine lv_i2l (v := ((x6 : Int32).toInt64)) X.1 X.2.1 dX12_copy_147 rfl ?_
                        refine lv_iload X.1 X.2.1 dX12_copy_148 (mz_at hl 9 rfl) ?_
                        refine lv_i2l (v := ((x7 : Int32).toInt64)) X.1 X.2.1 dX12_copy_150 rfl ?_
                        refine lv_ladd X.1 X.2.1 dX12_copy_151 ?_
                        refine mz_aload_n X dX12_copy_152 rfl (mz_at hl 2 rfl) ?_
                        refine mz_getR X hH fl_RX12_96 dX12_copy_153 hr (fun v19 hr => ?_)
                        refine lv_iload X.1 X.2.1 dX12_copy_156 (mz_at hl 0 rfl) ?_
                        refine mz_iald X hH dX12_copy_158 hr (fun v20 hr => ?_)
                        refine lv_i2l (v := ((v20 : Int32).toInt64)) X.1 X.2.1 dX12_copy_159 rfl ?_
                        refine W.lcmp X.1 X.2.1 dX12_copy_160 ?_
                        refine mz_if_le X 170 dX12_copy_161 (by decide) hr (fun hr => ?_) (fun hr => ?_)
                        · refine lv_iload X.1 X.2.1 dX12_copy_170 (mz_at hl 8 rfl) ?_
                          refine lv_iload_n X.1 X.2.1 dX12_copy_172 rfl (mz_at hl 5 rfl) ?_
                          refine mz_icmp_gt X 180 dX12_copy_173 (by decide) hr (fun hr => ?_) (fun hr => ?_)
                          · refine lv_iconst (v := 0) X.1 X.2.1 dX12_copy_180 (by decide) ?_
                            exact pf_X12_copy_b181 r Y h a0 x3 x6 x7 v3 v4 0 _ _ hr H locs cells slots ls hH hS (mz_sub hl [2, 5, 8, 9, 1, 0] rfl) hc hs
                          · refine lv_iconst (v := 1) X.1 X.2.1 dX12_copy_176 (by decide) ?_
                            refine lv_goto (tgt := 181) X.1 X.2.1 dX12_copy_177 (by decide) ?_
                            exact pf_X12_copy_b181 r Y h a0 x3 x6 x7 v3 v4 1 _ _ hr H locs cells slots ls hH hS (mz_sub hl [2, 5, 8, 9, 1, 0] rfl) hc hs
                        · exact pf_X12_copy_b164 r Y h a0 _ _ hr H locs cells slots ls hH hS (mz_sub hl [2] rfl) hc hs
              · exact pf_X12_copy_b107 r Y h a0 _ _ hr H locs cells slots ls hH hS (mz_sub hl [2] rfl) hc hs
          · refine lv_bipush (v := (-3)) X.1 X.2.1 dX12_copy_84 (by decide) ?_
            exact mz_iret Y dX12_copy_86 hH hS hc hs hr
    · refine lv_iconst (v := (-1)) X.1 X.2.1 dX12_copy_25 (by decide) ?_
      exact mz_iret Y dX12_copy_26 hH hS hc hs hr
set_option maxRecDepth 100000 in
theorem ct_X12_copy (l : Launch) (g : mz_G) (h : mz_H) (a0 : (Option Nat)) (x1 : Int32) (x2 : Int32) (x3 : Int32) (x4 : Int32) (x5 : Int32) (x6 : Int32) (x7 : Int32) (r : Int32) (hf : mz_H) (k n : Nat) (hr : fn_X12_copy h a0 x1 x2 x3 x4 x5 x6 x7 = some (r, hf, k, n)) : mz_C l g yX12_copy cX12_copy 13 (some .int) 2 43 [va_rf a0, .int x1, .int x2, .int x3, .int x4, .int x5, .int x6, .int x7] h (some (Value.int r)) hf k n := by
  refine mz_met (as := [(false, va_rf a0), (false, .int x1), (false, .int x2), (false, .int x3), (false, .int x4), (false, .int x5), (false, .int x6), (false, .int x7)]) (plainFor_of_name (by decide)) (mz_c1 (mz_cat_rf _) (mz_c1 rfl (mz_c1 rfl (mz_c1 rfl (mz_c1 rfl (mz_c1 rfl (mz_c1 rfl (mz_c1 rfl mz_c0)))))))) (Nat.le_of_ble_eq_true rfl) ?_
  intro p e s m args below meth c Y
  exact pf_X12_copy_b0 r Y h a0 x1 x2 x3 x4 x5 x6 x7 _ _ hr
theorem dX12_follow_0 : decode cX12_follow 0 = .ok (.aload_n 0, 1) := by decide +kernel
theorem dX12_follow_1 : decode cX12_follow 1 = .ok (.iconst 0, 1) := by decide +kernel
theorem dX12_follow_2 : decode cX12_follow 2 = .ok (.putfield 125, 3) := by decide +kernel
theorem dX12_follow_5 : decode cX12_follow 5 = .ok (.aload_n 0, 1) := by decide +kernel
theorem dX12_follow_6 : decode cX12_follow 6 = .ok (.iload_n 1, 1) := by decide +kernel
theorem dX12_follow_7 : decode cX12_follow 7 = .ok (.invokevirtual 214, 3) := by decide +kernel
theorem dX12_follow_10 : decode cX12_follow 10 = .ok (.ifCond .ne 5, 3) := by decide +kernel
theorem dX12_follow_13 : decode cX12_follow 13 = .ok (.iconst (-1), 1) := by decide +kernel
theorem dX12_follow_14 : decode cX12_follow 14 = .ok (.ireturn, 1) := by decide +kernel
theorem dX12_follow_15 : decode cX12_follow 15 = .ok (.iload_n 2, 1) := by decide +kernel
theorem dX12_follow_16 : decode cX12_follow 16 = .ok (.iconst 0, 1) := by decide +kernel
theorem dX12_follow_17 : decode cX12_follow 17 = .ok (.bipush 30, 2) := by decide +kernel
theorem dX12_follow_19 : decode cX12_follow 19 = .ok (.invokestatic 142, 3) := by decide +kernel
theorem dX12_follow_22 : decode cX12_follow 22 = .ok (.ifCond .eq 13, 3) := by decide +kernel
theorem dX12_follow_25 : decode cX12_follow 25 = .ok (.iload_n 3, 1) := by decide +kernel
theorem dX12_follow_26 : decode cX12_follow 26 = .ok (.iconst 0, 1) := by decide +kernel
theorem dX12_follow_27 : decode cX12_follow 27 = .ok (.bipush 20, 2) := by decide +kernel
theorem dX12_follow_29 : decode cX12_follow 29 = .ok (.invokestatic 142, 3) := by decide +kernel
theorem dX12_follow_32 : decode cX12_follow 32 = .ok (.ifCond .ne 6, 3) := by decide +kernel
theorem dX12_follow_35 : decode cX12_follow 35 = .ok (.bipush (-2), 2) := by decide +kernel
theorem dX12_follow_37 : decode cX12_follow 37 = .ok (.ireturn, 1) := by decide +kernel
theorem dX12_follow_38 : decode cX12_follow 38 = .ok (.iload_n 1, 1) := by decide +kernel
theorem dX12_follow_39 : decode cX12_follow 39 = .ok (.istore 4, 2) := by decide +kernel
theorem dX12_follow_41 : decode cX12_follow 41 = .ok (.iconst 0, 1) := by decide +kernel
theorem dX12_follow_42 : decode cX12_follow 42 = .ok (.istore 5, 2) := by decide +kernel
theorem dX12_follow_44 : decode cX12_follow 44 = .ok (.iload 5, 2) := by decide +kernel
theorem dX12_follow_46 : decode cX12_follow 46 = .ok (.iload_n 3, 1) := by decide +kernel
theorem dX12_follow_47 : decode cX12_follow 47 = .ok (.if_icmp .ge 141, 3) := by decide +kernel
theorem dX12_follow_50 : decode cX12_follow 50 = .ok (.aload_n 0, 1) := by decide +kernel
theorem dX12_follow_51 : decode cX12_follow 51 = .ok (.iload 4, 2) := by decide +kernel
theorem dX12_follow_53 : decode cX12_follow 53 = .ok (.iload_n 2, 1) := by decide +kernel
theorem dX12_follow_54 : decode cX12_follow 54 = .ok (.invokevirtual 223, 3) := by decide +kernel
theorem dX12_follow_57 : decode cX12_follow 57 = .ok (.istore 6, 2) := by decide +kernel
theorem dX12_follow_59 : decode cX12_follow 59 = .ok (.iload 6, 2) := by decide +kernel
theorem dX12_follow_61 : decode cX12_follow 61 = .ok (.bipush (-9), 2) := by decide +kernel
theorem dX12_follow_63 : decode cX12_follow 63 = .ok (.if_icmp .ne 10, 3) := by decide +kernel
theorem dX12_follow_66 : decode cX12_follow 66 = .ok (.aload_n 0, 1) := by decide +kernel
theorem dX12_follow_67 : decode cX12_follow 67 = .ok (.bipush 7, 2) := by decide +kernel
theorem dX12_follow_69 : decode cX12_follow 69 = .ok (.invokevirtual 131, 3) := by decide +kernel
theorem dX12_follow_72 : decode cX12_follow 72 = .ok (.ireturn, 1) := by decide +kernel
theorem dX12_follow_73 : decode cX12_follow 73 = .ok (.bipush 16, 2) := by decide +kernel
theorem dX12_follow_75 : decode cX12_follow 75 = .ok (.iload 4, 2) := by decide +kernel
theorem dX12_follow_77 : decode cX12_follow 77 = .ok (.imul, 1) := by decide +kernel
theorem dX12_follow_78 : decode cX12_follow 78 = .ok (.iload 6, 2) := by decide +kernel
theorem dX12_follow_80 : decode cX12_follow 80 = .ok (.iadd, 1) := by decide +kernel
theorem dX12_follow_81 : decode cX12_follow 81 = .ok (.istore 7, 2) := by decide +kernel
theorem dX12_follow_83 : decode cX12_follow 83 = .ok (.aload_n 0, 1) := by decide +kernel
theorem dX12_follow_84 : decode cX12_follow 84 = .ok (.getfield 93, 3) := by decide +kernel
theorem dX12_follow_87 : decode cX12_follow 87 = .ok (.iload 7, 2) := by decide +kernel
theorem dX12_follow_89 : decode cX12_follow 89 = .ok (.baload, 1) := by decide +kernel
theorem dX12_follow_90 : decode cX12_follow 90 = .ok (.ifCond .ne 9, 3) := by decide +kernel
theorem dX12_follow_93 : decode cX12_follow 93 = .ok (.aload_n 0, 1) := by decide +kernel
theorem dX12_follow_94 : decode cX12_follow 94 = .ok (.iconst 1, 1) := by decide +kernel
theorem dX12_follow_95 : decode cX12_follow 95 = .ok (.invokevirtual 131, 3) := by decide +kernel
theorem dX12_follow_98 : decode cX12_follow 98 = .ok (.ireturn, 1) := by decide +kernel
theorem dX12_follow_99 : decode cX12_follow 99 = .ok (.aload_n 0, 1) := by decide +kernel
theorem dX12_follow_100 : decode cX12_follow 100 = .ok (.getfield 84, 3) := by decide +kernel
theorem dX12_follow_103 : decode cX12_follow 103 = .ok (.iload 7, 2) := by decide +kernel
theorem dX12_follow_105 : decode cX12_follow 105 = .ok (.iaload, 1) := by decide +kernel
theorem dX12_follow_106 : decode cX12_follow 106 = .ok (.bipush 8, 2) := by decide +kernel
theorem dX12_follow_108 : decode cX12_follow 108 = .ok (.if_icmp .ne 14, 3) := by decide +kernel
theorem dX12_follow_111 : decode cX12_follow 111 = .ok (.aload_n 0, 1) := by decide +kernel
theorem dX12_follow_112 : decode cX12_follow 112 = .ok (.getfield 87, 3) := by decide +kernel
theorem dX12_follow_115 : decode cX12_follow 115 = .ok (.iload 7, 2) := by decide +kernel
theorem dX12_follow_117 : decode cX12_follow 117 = .ok (.iaload, 1) := by decide +kernel
theorem dX12_follow_118 : decode cX12_follow 118 = .ok (.iconst 2, 1) := by decide +kernel
theorem dX12_follow_119 : decode cX12_follow 119 = .ok (.if_icmp .ne 9, 3) := by decide +kernel
theorem dX12_follow_122 : decode cX12_follow 122 = .ok (.aload_n 0, 1) := by decide +kernel
theorem dX12_follow_123 : decode cX12_follow 123 = .ok (.iconst 2, 1) := by decide +kernel
theorem dX12_follow_124 : decode cX12_follow 124 = .ok (.invokevirtual 131, 3) := by decide +kernel
theorem dX12_follow_127 : decode cX12_follow 127 = .ok (.ireturn, 1) := by decide +kernel
theorem dX12_follow_128 : decode cX12_follow 128 = .ok (.aload_n 0, 1) := by decide +kernel
theorem dX12_follow_129 : decode cX12_follow 129 = .ok (.getfield 96, 3) := by decide +kernel
theorem dX12_follow_132 : decode cX12_follow 132 = .ok (.iload 7, 2) := by decide +kernel
theorem dX12_follow_134 : decode cX12_follow 134 = .ok (.iaload, 1) := by decide +kernel
theorem dX12_follow_135 : decode cX12_follow 135 = .ok (.ifCond .ne 9, 3) := by decide +kernel
theorem dX12_follow_138 : decode cX12_follow 138 = .ok (.aload_n 0, 1) := by decide +kernel
theorem dX12_follow_139 : decode cX12_follow 139 = .ok (.iconst 3, 1) := by decide +kernel
theorem dX12_follow_140 : decode cX12_follow 140 = .ok (.invokevirtual 131, 3) := by decide +kernel
theorem dX12_follow_143 : decode cX12_follow 143 = .ok (.ireturn, 1) := by decide +kernel
theorem dX12_follow_144 : decode cX12_follow 144 = .ok (.aload_n 0, 1) := by decide +kernel
theorem dX12_follow_145 : decode cX12_follow 145 = .ok (.getfield 106, 3) := by decide +kernel
theorem dX12_follow_148 : decode cX12_follow 148 = .ok (.sipush 900, 3) := by decide +kernel
theorem dX12_follow_151 : decode cX12_follow 151 = .ok (.iload 7, 2) := by decide +kernel
theorem dX12_follow_153 : decode cX12_follow 153 = .ok (.imul, 1) := by decide +kernel
theorem dX12_follow_154 : decode cX12_follow 154 = .ok (.laload, 1) := by decide +kernel
theorem dX12_follow_155 : decode cX12_follow 155 = .ok (.ldc2_w 217, 3) := by decide +kernel
theorem dX12_follow_158 : decode cX12_follow 158 = .ok (.lcmp, 1) := by decide +kernel
theorem dX12_follow_159 : decode cX12_follow 159 = .ok (.ifCond .ne 9, 3) := by decide +kernel
theorem dX12_follow_162 : decode cX12_follow 162 = .ok (.aload_n 0, 1) := by decide +kernel
theorem dX12_follow_163 : decode cX12_follow 163 = .ok (.iconst 1, 1) := by decide +kernel
theorem dX12_follow_164 : decode cX12_follow 164 = .ok (.invokevirtual 131, 3) := by decide +kernel
theorem dX12_follow_167 : decode cX12_follow 167 = .ok (.ireturn, 1) := by decide +kernel
theorem dX12_follow_168 : decode cX12_follow 168 = .ok (.aload_n 0, 1) := by decide +kernel
theorem dX12_follow_169 : decode cX12_follow 169 = .ok (.getfield 106, 3) := by decide +kernel
theorem dX12_follow_172 : decode cX12_follow 172 = .ok (.sipush 900, 3) := by decide +kernel
theorem dX12_follow_175 : decode cX12_follow 175 = .ok (.iload 7, 2) := by decide +kernel
theorem dX12_follow_177 : decode cX12_follow 177 = .ok (.imul, 1) := by decide +kernel
theorem dX12_follow_178 : decode cX12_follow 178 = .ok (.laload, 1) := by decide +kernel
theorem dX12_follow_179 : decode cX12_follow 179 = .ok (.l2i, 1) := by decide +kernel
theorem dX12_follow_180 : decode cX12_follow 180 = .ok (.istore 4, 2) := by decide +kernel
theorem dX12_follow_182 : decode cX12_follow 182 = .ok (.iinc 5 1, 3) := by decide +kernel
theorem dX12_follow_185 : decode cX12_follow 185 = .ok (.goto (-141), 3) := by decide +kernel
theorem dX12_follow_188 : decode cX12_follow 188 = .ok (.iload 4, 2) := by decide +kernel
theorem dX12_follow_190 : decode cX12_follow 190 = .ok (.ireturn, 1) := by decide +kernel
def fn_X12_follow_b122 (h : mz_H) (a0 : (Option Nat)) : mz_Res Int32 :=
  mz_chk (mz_is h a0 11) <| mz_call (fn_X12_fails h a0 2) fun v1 h =>
  mz_ret v1 h
set_option maxHeartbeats 4000000 in
set_option maxRecDepth 100000 in
theorem pf_X12_follow_b122 (r : Int32) (Y : mz_Y p g RX12 cX12_follow 8 (some .int) "follow" (mz_AF h0) s m args meth c) (h : mz_H) (a0 : (Option Nat)) (dc ds : Nat) (hr : fn_X12_follow_b122 h a0 = some (r, hf, dc, ds)) : mz_Go l g p e s m args below meth c 1 24 DC DS h0 (some (Value.int r)) hf 8 122 [(0, false, va_rf a0)] [] h dc ds := by
  unfold fn_X12_follow_b122 at hr
  intro H locs cells slots ls hH hS hl hc hs
  have X := Y.1
  refine mz_aload_n X dX12_follow_122 rfl (mz_at hl 0 rfl) ?_
  refine lv_iconst (v := 2) X.1 X.2.1 dX12_follow_123 (by decide) ?_
  refine mz_kV Value.int X hH hS hl.1.1 [.int 2] [] hr (ct_X12_fails l g h a0 2) mb_RX12_131 rfl im_X12_fails rfl (Nat.le_of_ble_eq_true rfl) ⟨Nat.le_of_ble_eq_true rfl, Nat.le_of_ble_eq_true rfl⟩ hc hs dX12_follow_124 rfl (fun v1 h H locs cells slots dc ds hr hH hS hc hs => ?_)
  exact mz_iret Y dX12_follow_127 hH hS hc hs hr
def fn_X12_follow_b44 : Nat → mz_H → (Option Nat) → Int32 → Int32 → Int32 → Int32 → mz_Res Int32
  | 0, _, _, _, _, _, _ => none
  | n + 1, h, a0, x2, x3, x4, x5 =>
    if x3 ≤ x5 then
      mz_ret x4 h
    else
      mz_chk (mz_is h a0 11) <| mz_call (fn_X12_slotOf h a0 x4 x2) fun v1 h =>
      if v1 = (-9) then
        mz_chk (mz_is h a0 11) <| mz_call (fn_X12_fails h a0 7) fun v20 h =>
        mz_ret v20 h
      else
        mz_op (some ((16 * x4) + v1)) fun v2 =>
        mz_op (mz_fR h a0 11 39) fun v3 =>
        mz_op (mz_aI h v3 2 v2) fun v4 =>
        if v4 = 0 then
          mz_chk (mz_is h a0 11) <| mz_call (fn_X12_fails h a0 1) fun v19 h =>
          mz_ret v19 h
        else
          mz_op (mz_fR h a0 11 36) fun v5 =>
          mz_op (mz_aI h v5 0 v2) fun v6 =>
          if v6 = 8 then
            mz_op (mz_fR h a0 11 37) fun v7 =>
            mz_op (mz_aI h v7 0 v2) fun v8 =>
            if v8 = 2 then
              fn_X12_follow_b122 h a0
            else
              mz_op (mz_fR h a0 11 40) fun v9 =>
              mz_op (mz_aI h v9 0 v2) fun v10 =>
              if v10 = 0 then
                mz_chk (mz_is h a0 11) <| mz_call (fn_X12_fails h a0 3) fun v18 h =>
                mz_ret v18 h
              else
                mz_op (mz_fR h a0 11 43) fun v11 =>
                mz_op (mz_aJ h v11 (900 * v2)) fun v12 =>
                if (lg_cmp v12 (-9)) = 0 then
                  mz_chk (mz_is h a0 11) <| mz_call (fn_X12_fails h a0 1) fun v17 h =>
                  mz_ret v17 h
                else
                  mz_op (mz_fR h a0 11 43) fun v13 =>
                  mz_op (mz_aJ h v13 (900 * v2)) fun v14 =>
                  mz_op (some ((v14 : Int64).toInt32)) fun v15 =>
                  mz_op (some (x5 + 1)) fun v16 =>
                  fn_X12_follow_b44 n h a0 x2 x3 v15 v16
          else
            fn_X12_follow_b122 h a0
set_option maxHeartbeats 4000000 in
set_option maxRecDepth 100000 in
theorem pf_X12_follow_b44 (r : Int32) (Y : mz_Y p g RX12 cX12_follow 8 (some .int) "follow" (mz_AF h0) s m args meth c) : ∀ (n : Nat) (h : mz_H) (a0 : (Option Nat)) (x2 : Int32) (x3 : Int32) (x4 : Int32) (x5 : Int32) (dc ds : Nat), fn_X12_follow_b44 n h a0 x2 x3 x4 x5 = some (r, hf, dc, ds) → mz_Go l g p e s m args below meth c 1 24 DC DS h0 (some (Value.int r)) hf 8 44 [(0, false, va_rf a0), (2, false, .int x2), (3, false, .int x3), (4, false, .int x4), (5, false, .int x5)] [] h dc ds := by
  have X := Y.1
  intro n
  induction n with
  | zero => intro h a0 x2 x3 x4 x5 dc ds hr; simp [fn_X12_follow_b44] at hr
  | succ n ih =>
    intro h a0 x2 x3 x4 x5 dc ds hr
    rw [fn_X12_follow_b44] at hr
    intro H locs cells slots ls hH hS hl hc hs
    refine lv_iload X.1 X.2.1 dX12_follow_44 (mz_at hl 4 rfl) ?_
    refine lv_iload_n X.1 X.2.1 dX12_follow_46 rfl (mz_at hl 2 rfl) ?_
    refine mz_icmp_ge X 188 dX12_follow_47 (by decide) hr (fun hr => ?_) (fun hr => ?_)
    · refine lv_iload X.1 X.2.1 dX12_follow_188 (mz_at hl 3 rfl) ?_
      exact mz_iret Y dX12_follow_190 hH hS hc hs hr
    · refine mz_aload_n X dX12_follow_50 rfl (mz_at hl 0 rfl) ?_
      refine lv_iload X.1 X.2.1 dX12_follow_51 (mz_at hl 3 rfl) ?_
      refine lv_iload_n X.1 X.2.1 dX12_follow_53 rfl (mz_at hl 1 rfl) ?_
      refine mz_kV Value.int X hH hS hl.1.1 [.int x4, .int x2] [] hr (ct_X12_slotOf l g h a0 x4 x2) mb_RX12_223 rfl im_X12_slotOf rfl (Nat.le_of_ble_eq_true rfl) ⟨Nat.le_of_ble_eq_true rfl, Nat.le_of_ble_eq_true rfl⟩ hc hs dX12_follow_54 rfl (fun v1 h H locs cells slots dc ds hr hH hS hc hs => ?_)
      refine mz_istore X [(6, false, .int v1), (0, false, va_rf a0), (2, false, .int x2), (3, false, .int x3), (4, false, .int x4), (5, false, .int x5)] dX12_follow_57 hl (by decide) rfl (fun ls hl => ?_)
      refine lv_iload X.1 X.2.1 dX12_follow_59 (mz_at hl 0 rfl) ?_
      refine lv_bipush (v := (-9)) X.1 X.2.1 dX12_follow_61 (by decide) ?_
      refine mz_icmp_ne X 73 dX12_follow_63 (by decide) hr (fun hr => ?_) (fun hr => ?_)
      · refine lv_bipush (v := 16) X.1 X.2.1 dX12_follow_73 (by decide) ?_
        refine lv_iload X.1 X.2.1 dX12_follow_75 (mz_at hl 4 rfl) ?_
        refine lv_imul X.1 X.2.1 dX12_follow_77 ?_
        refine lv_iload X.1 X.2.1 dX12_follow_78 (mz_at hl 0 rfl) ?_
        refine lv_iadd X.1 X.2.1 dX12_follow_80 ?_
        refine mz_topi hr (fun v2 hv2 hr => ?_)
        refine mz_istore X [(7, false, .int v2), (6, false, .int v1), (0, false, va_rf a0), (2, false, .int x2), (3, false, .int x3), (4, false, .int x4), (5, false, .int x5)] dX12_follow_81 hl (by decide) rfl (fun ls hl => ?_)
        refine mz_aload_n X dX12_follow_83 rfl (mz_at hl 2 rfl) ?_
        refine mz_getR X hH fl_RX12_93 dX12_follow_84 hr (fun v3 hr => ?_)
        refine lv_iload X.1 X.2.1 dX12_follow_87 (mz_at hl 0 rfl) ?_
        refine mz_zald X hH dX12_follow_89 hr (fun v4 hr => ?_)
        refine mz_if_ne X 99 dX12_follow_90 (by decide) hr (fun hr => ?_) (fun hr => ?_)
        · refine mz_aload_n X dX12_follow_99 rfl (mz_at hl 2 rfl) ?_
          refine mz_getR X hH fl_RX12_84 dX12_follow_100 hr (fun v5 hr => ?_)
          refine lv_iload X.1 X.2.1 dX12_follow_103 (mz_at hl 0 rfl) ?_
          refine mz_iald X hH dX12_follow_105 hr (fun v6 hr => ?_)
          refine lv_bipush (v := 8) X.1 X.2.1 dX12_follow_106 (by decide) ?_
          refine mz_icmp_ne X 122 dX12_follow_108 (by decide) hr (fun hr => ?_) (fun hr => ?_)
          · exact pf_X12_follow_b122 r Y h a0 _ _ hr H locs cells slots ls hH hS (mz_sub hl [2] rfl) hc hs
          · refine mz_aload_n X dX12_follow_111 rfl (mz_at hl 2 rfl) ?_
            refine mz_getR X hH fl_RX12_87 dX12_follow_112 hr (fun v7 hr => ?_)
            refine lv_iload X.1 X.2.1 dX12_follow_115 (mz_at hl 0 rfl) ?_
            refine mz_iald X hH dX12_follow_117 hr (fun v8 hr => ?_)
            refine lv_iconst (v := 2) X.1 X.2.1 dX12_follow_118 (by decide) ?_
            refine mz_icmp_ne X 128 dX12_follow_119 (by decide) hr (fun hr => ?_) (fun hr => ?_)
            · refine mz_aload_n X dX12_follow_128 rfl (mz_at hl 2 rfl) ?_
              refine mz_getR X hH fl_RX12_96 dX12_follow_129 hr (fun v9 hr => ?_)
              refine lv_iload X.1 X.2.1 dX12_follow_132 (mz_at hl 0 rfl) ?_
              refine mz_iald X hH dX12_follow_134 hr (fun v10 hr => ?_)
              refine mz_if_ne X 144 dX12_follow_135 (by decide) hr (fun hr => ?_) (fun hr => ?_)
              · refine mz_aload_n X dX12_follow_144 rfl (mz_at hl 2 rfl) ?_
                refine mz_getR X hH fl_RX12_106 dX12_follow_145 hr (fun v11 hr => ?_)
                refine lv_sipush (v := 900) X.1 X.2.1 dX12_follow_148 (by decide) ?_
                refine lv_iload X.1 X.2.1 dX12_follow_151 (mz_at hl 0 rfl) ?_
                refine lv_imul X.1 X.2.1 dX12_follow_153 ?_
                refine mz_lald X hH dX12_follow_154 hr (fun v12 hr => ?_)
                refine mz_ldc2 (v := (-9)) X (mz_tb 1240 (by decide +kernel) rfl) dX12_follow_155 ?_
                refine W.lcmp X.1 X.2.1 dX12_follow_158 ?_
                refine mz_if_ne X 168 dX12_follow_159 (by decide) hr (fun hr => ?_) (fun hr => ?_)
                · refine mz_aload_n X dX12_follow_168 rfl (mz_at hl 2 rfl) ?_
                  refine mz_getR X hH fl_RX12_106 dX12_follow_169 hr (fun v13 hr => ?_)
                  refine lv_sipush (v := 900) X.1 X.2.1 dX12_follow_172 (by decide) ?_
                  refine lv_iload X.1 X.2.1 dX12_follow_175 (mz_at hl 0 rfl) ?_
                  refine lv_imul X.1 X.2.1 dX12_follow_177 ?_
                  refine mz_lald X hH dX12_follow_178 hr (fun v14 hr => ?_)
                  refine lv_l2i (v := ((v14 : Int64).toInt32)) X.1 X.2.1 dX12_follow_179 rfl ?_
                  refine mz_topi hr (fun v15 hv15 hr => ?_)
                  refine mz_istore X [(4, false, .int v15), (7, false, .int v2), (6, false, .int v1), (0, false, va_rf a0), (2, false, .int x2), (3, false, .int x3), (5, false, .int x5)] dX12_follow_180 hl (by decide) rfl (fun ls hl => ?_)
                  obtain ⟨v16, hv16, hr⟩ := mz_op_some hr
                  have hv16 := Option.some.inj hv16
                  refine mz_iinc (k := 6) X [(5, false, .int v16), (4, false, .int v15), (7, false, .int v2), (6, false, .int v1), (0, false, va_rf a0), (2, false, .int x2), (3, false, .int x3)] v16 dX12_follow_182 hl rfl hv16 (by decide) rfl (fun ls hl => ?_)
                  refine lv_goto (tgt := 44) X.1 X.2.1 dX12_follow_185 (by decide) ?_
                  exact ih h a0 x2 x3 v15 v16 _ _ hr H locs cells slots ls hH hS (mz_sub hl [4, 5, 6, 1, 0] rfl) hc hs
                · refine mz_aload_n X dX12_follow_162 rfl (mz_at hl 2 rfl) ?_
                  refine lv_iconst (v := 1) X.1 X.2.1 dX12_follow_163 (by decide) ?_
                  refine mz_kV Value.int X hH hS hl.1.1 [.int 1] [] hr (ct_X12_fails l g h a0 1) mb_RX12_131 rfl im_X12_fails rfl (Nat.le_of_ble_eq_true rfl) ⟨Nat.le_of_ble_eq_true rfl, Nat.le_of_ble_eq_true rfl⟩ hc hs dX12_follow_164 rfl (fun v17 h H locs cells slots dc ds hr hH hS hc hs => ?_)
                  exact mz_iret Y dX12_follow_167 hH hS hc hs hr
              · refine mz_aload_n X dX12_follow_138 rfl (mz_at hl 2 rfl) ?_
                refine lv_iconst (v := 3) X.1 X.2.1 dX12_follow_139 (by decide) ?_
                refine mz_kV Value.int X hH hS hl.1.1 [.int 3] [] hr (ct_X12_fails l g h a0 3) mb_RX12_131 rfl im_X12_fails rfl (Nat.le_of_ble_eq_true rfl) ⟨Nat.le_of_ble_eq_true rfl, Nat.le_of_ble_eq_true rfl⟩ hc hs dX12_follow_140 rfl (fun v18 h H locs cells slots dc ds hr hH hS hc hs => ?_)
                exact mz_iret Y dX12_follow_143 hH hS hc hs hr
            · exact pf_X12_follow_b122 r Y h a0 _ _ hr H locs cells slots ls hH hS (mz_sub hl [2] rfl) hc hs
        · refine mz_aload_n X dX12_follow_93 rfl (mz_at hl 2 rfl) ?_
          refine lv_iconst (v := 1) X.1 X.2.1 dX12_follow_94 (by decide) ?_
          refine mz_kV Value.int X hH hS hl.1.1 [.int 1] [] hr (ct_X12_fails l g h a0 1) mb_RX12_131 rfl im_X12_fails rfl (Nat.le_of_ble_eq_true rfl) ⟨Nat.le_of_ble_eq_true rfl, Nat.le_of_ble_eq_true rfl⟩ hc hs dX12_follow_95 rfl (fun v19 h H locs cells slots dc ds hr hH hS hc hs => ?_)
          exact mz_iret Y dX12_follow_98 hH hS hc hs hr
      · refine mz_aload_n X dX12_follow_66 rfl (mz_at hl 1 rfl) ?_
        refine lv_bipush (v := 7) X.1 X.2.1 dX12_follow_67 (by decide) ?_
        refine mz_kV Value.int X hH hS hl.1.1 [.int 7] [] hr (ct_X12_fails l g h a0 7) mb_RX12_131 rfl im_X12_fails rfl (Nat.le_of_ble_eq_true rfl) ⟨Nat.le_of_ble_eq_true rfl, Nat.le_of_ble_eq_true rfl⟩ hc hs dX12_follow_69 rfl (fun v20 h H locs cells slots dc ds hr hH hS hc hs => ?_)
        exact mz_iret Y dX12_follow_72 hH hS hc hs hr
def fn_X12_follow (h : mz_H) (a0 : (Option Nat)) (x1 : Int32) (x2 : Int32) (x3 : Int32) : mz_Res Int32 :=
  mz_op (mz_pF h a0 11 0 (Value.int 0)) fun h =>
  mz_chk (mz_is h a0 11) <| mz_call (fn_X12_isObject h a0 x1) fun v1 h =>
  if v1 = 0 then
    mz_ret (-1) h
  else
    mz_call (fn_X12_within h x2 0 30) fun v2 h =>
    if v2 = 0 then
      mz_ret (-2) h
    else
      mz_call (fn_X12_within h x3 0 20) fun v3 h =>
      if v3 = 0 then
        mz_ret (-2) h
      else
        fn_X12_follow_b44 1001 h a0 x2 x3 x1 0
set_option maxHeartbeats 4000000 in
set_option maxRecDepth 100000 in
theorem pf_X12_follow_b0 (r : Int32) (Y : mz_Y p g RX12 cX12_follow 8 (some .int) "follow" (mz_AF h0) s m args meth c) (h : mz_H) (a0 : (Option Nat)) (x1 : Int32) (x2 : Int32) (x3 : Int32) (dc ds : Nat) (hr : fn_X12_follow h a0 x1 x2 x3 = some (r, hf, dc, ds)) : mz_Go l g p e s m args below meth c 1 24 DC DS h0 (some (Value.int r)) hf 8 0 [(0, false, va_rf a0), (1, false, .int x1), (2, false, .int x2), (3, false, .int x3)] [] h dc ds := by
  unfold fn_X12_follow at hr
  intro H locs cells slots ls hH hS hl hc hs
  have X := Y.1
  refine mz_aload_n X dX12_follow_0 rfl (mz_at hl 0 rfl) ?_
  refine lv_iconst (v := 0) X.1 X.2.1 dX12_follow_1 (by decide) ?_
  refine mz_put X hH hS fp_RX12_125 dX12_follow_2 rfl rfl hr (fun h H locs hr hH hS => ?_)
  refine mz_aload_n X dX12_follow_5 rfl (mz_at hl 0 rfl) ?_
  refine lv_iload_n X.1 X.2.1 dX12_follow_6 rfl (mz_at hl 1 rfl) ?_
  refine mz_kV Value.int X hH hS hl.1.1 [.int x1] [] hr (ct_X12_isObject l g h a0 x1) mb_RX12_214 rfl im_X12_isObject rfl (Nat.le_of_ble_eq_true rfl) ⟨Nat.le_of_ble_eq_true rfl, Nat.le_of_ble_eq_true rfl⟩ hc hs dX12_follow_7 rfl (fun v1 h H locs cells slots dc ds hr hH hS hc hs => ?_)
  refine mz_if_ne X 15 dX12_follow_10 (by decide) hr (fun hr => ?_) (fun hr => ?_)
  · refine lv_iload_n X.1 X.2.1 dX12_follow_15 rfl (mz_at hl 2 rfl) ?_
    refine lv_iconst (v := 0) X.1 X.2.1 dX12_follow_16 (by decide) ?_
    refine lv_bipush (v := 30) X.1 X.2.1 dX12_follow_17 (by decide) ?_
    refine mz_kS Value.int X hH hS hl.1.1 [.int x2, .int 0, .int 30] [] hr (ct_X12_within l g h x2 0 30) mb_RX12_142 im_X12_within rfl (Nat.le_of_ble_eq_true rfl) ⟨Nat.le_of_ble_eq_true rfl, Nat.le_of_ble_eq_true rfl⟩ hc hs dX12_follow_19 rfl (fun v2 h H locs cells slots dc ds hr hH hS hc hs => ?_)
    refine mz_if_eq X 35 dX12_follow_22 (by decide) hr (fun hr => ?_) (fun hr => ?_)
    · refine lv_bipush (v := (-2)) X.1 X.2.1 dX12_follow_35 (by decide) ?_
      exact mz_iret Y dX12_follow_37 hH hS hc hs hr
    · refine lv_iload_n X.1 X.2.1 dX12_follow_25 rfl (mz_at hl 3 rfl) ?_
      refine lv_iconst (v := 0) X.1 X.2.1 dX12_follow_26 (by decide) ?_
      refine lv_bipush (v := 20) X.1 X.2.1 dX12_follow_27 (by decide) ?_
      refine mz_kS Value.int X hH hS hl.1.1 [.int x3, .int 0, .int 20] [] hr (ct_X12_within l g h x3 0 20) mb_RX12_142 im_X12_within rfl (Nat.le_of_ble_eq_true rfl) ⟨Nat.le_of_ble_eq_true rfl, Nat.le_of_ble_eq_true rfl⟩ hc hs dX12_follow_29 rfl (fun v3 h H locs cells slots dc ds hr hH hS hc hs => ?_)
      refine mz_if_ne X 38 dX12_follow_32 (by decide) hr (fun hr => ?_) (fun hr => ?_)
      · refine lv_iload_n X.1 X.2.1 dX12_follow_38 rfl (mz_at hl 1 rfl) ?_
        refine mz_istore X [(4, false, .int x1), (0, false, va_rf a0), (1, false, .int x1), (2, false, .int x2), (3, false, .int x3)] dX12_follow_39 hl (by decide) rfl (fun ls hl => ?_)
        refine lv_iconst (v := 0) X.1 X.2.1 dX12_follow_41 (by decide) ?_
        refine mz_istore X [(5, false, .int 0), (4, false, .int x1), (0, false, va_rf a0), (1, false, .int x1), (2, false, .int x2), (3, false, .int x3)] dX12_follow_42 hl (by decide) rfl (fun ls hl => ?_)
        exact pf_X12_follow_b44 r Y 1001 h a0 x2 x3 x1 0 _ _ hr H locs cells slots ls hH hS (mz_sub hl [2, 4, 5, 1, 0] rfl) hc hs
      · refine lv_bipush (v := (-2)) X.1 X.2.1 dX12_follow_35 (by decide) ?_
        exact mz_iret Y dX12_follow_37 hH hS hc hs hr
  · refine lv_iconst (v := (-1)) X.1 X.2.1 dX12_follow_13 (by decide) ?_
    exact mz_iret Y dX12_follow_14 hH hS hc hs hr
set_option maxRecDepth 100000 in
theorem ct_X12_follow (l : Launch) (g : mz_G) (h : mz_H) (a0 : (Option Nat)) (x1 : Int32) (x2 : Int32) (x3 : Int32) (r : Int32) (hf : mz_H) (k n : Nat) (hr : fn_X12_follow h a0 x1 x2 x3 = some (r, hf, k, n)) : mz_C l g yX12_follow cX12_follow 8 (some .int) 1 24 [va_rf a0, .int x1, .int x2, .int x3] h (some (Value.int r)) hf k n := by
  refine mz_met (as := [(false, va_rf a0), (false, .int x1), (false, .int x2), (false, .int x3)]) (plainFor_of_name (by decide)) (mz_c1 (mz_cat_rf _) (mz_c1 rfl (mz_c1 rfl (mz_c1 rfl mz_c0)))) (Nat.le_of_ble_eq_true rfl) ?_
  intro p e s m args below meth c Y
  exact pf_X12_follow_b0 r Y h a0 x1 x2 x3 _ _ hr
theorem dX12_twin_0 : decode cX12_twin 0 = .ok (.aload_n 0, 1) := by decide +kernel
theorem dX12_twin_1 : decode cX12_twin 1 = .ok (.iload_n 1, 1) := by decide +kernel
theorem dX12_twin_2 : decode cX12_twin 2 = .ok (.invokevirtual 214, 3) := by decide +kernel
theorem dX12_twin_5 : decode cX12_twin 5 = .ok (.ifCond .ne 5, 3) := by decide +kernel
theorem dX12_twin_8 : decode cX12_twin 8 = .ok (.iconst (-1), 1) := by decide +kernel
theorem dX12_twin_9 : decode cX12_twin 9 = .ok (.ireturn, 1) := by decide +kernel
theorem dX12_twin_10 : decode cX12_twin 10 = .ok (.aload_n 0, 1) := by decide +kernel
theorem dX12_twin_11 : decode cX12_twin 11 = .ok (.getfield 211, 3) := by decide +kernel
theorem dX12_twin_14 : decode cX12_twin 14 = .ok (.bipush 60, 2) := by decide +kernel
theorem dX12_twin_16 : decode cX12_twin 16 = .ok (.if_icmp .ne 6, 3) := by decide +kernel
theorem dX12_twin_19 : decode cX12_twin 19 = .ok (.bipush (-4), 2) := by decide +kernel
theorem dX12_twin_21 : decode cX12_twin 21 = .ok (.ireturn, 1) := by decide +kernel
theorem dX12_twin_22 : decode cX12_twin 22 = .ok (.aload_n 0, 1) := by decide +kernel
theorem dX12_twin_23 : decode cX12_twin 23 = .ok (.getfield 211, 3) := by decide +kernel
theorem dX12_twin_26 : decode cX12_twin 26 = .ok (.istore_n 2, 1) := by decide +kernel
theorem dX12_twin_27 : decode cX12_twin 27 = .ok (.aload_n 0, 1) := by decide +kernel
theorem dX12_twin_28 : decode cX12_twin 28 = .ok (.getfield 75, 3) := by decide +kernel
theorem dX12_twin_31 : decode cX12_twin 31 = .ok (.iload_n 2, 1) := by decide +kernel
theorem dX12_twin_32 : decode cX12_twin 32 = .ok (.aload_n 0, 1) := by decide +kernel
theorem dX12_twin_33 : decode cX12_twin 33 = .ok (.getfield 75, 3) := by decide +kernel
theorem dX12_twin_36 : decode cX12_twin 36 = .ok (.iload_n 1, 1) := by decide +kernel
theorem dX12_twin_37 : decode cX12_twin 37 = .ok (.iaload, 1) := by decide +kernel
theorem dX12_twin_38 : decode cX12_twin 38 = .ok (.iastore, 1) := by decide +kernel
theorem dX12_twin_39 : decode cX12_twin 39 = .ok (.aload_n 0, 1) := by decide +kernel
theorem dX12_twin_40 : decode cX12_twin 40 = .ok (.getfield 78, 3) := by decide +kernel
theorem dX12_twin_43 : decode cX12_twin 43 = .ok (.iload_n 2, 1) := by decide +kernel
theorem dX12_twin_44 : decode cX12_twin 44 = .ok (.aload_n 0, 1) := by decide +kernel
theorem dX12_twin_45 : decode cX12_twin 45 = .ok (.getfield 78, 3) := by decide +kernel
theorem dX12_twin_48 : decode cX12_twin 48 = .ok (.iload_n 1, 1) := by decide +kernel
theorem dX12_twin_49 : decode cX12_twin 49 = .ok (.iaload, 1) := by decide +kernel
theorem dX12_twin_50 : decode cX12_twin 50 = .ok (.iastore, 1) := by decide +kernel
theorem dX12_twin_51 : decode cX12_twin 51 = .ok (.iconst 0, 1) := by decide +kernel
theorem dX12_twin_52 : decode cX12_twin 52 = .ok (.istore_n 3, 1) := by decide +kernel
theorem dX12_twin_53 : decode cX12_twin 53 = .ok (.iload_n 3, 1) := by decide +kernel
theorem dX12_twin_54 : decode cX12_twin 54 = .ok (.aload_n 0, 1) := by decide +kernel
theorem dX12_twin_55 : decode cX12_twin 55 = .ok (.getfield 78, 3) := by decide +kernel
theorem dX12_twin_58 : decode cX12_twin 58 = .ok (.iload_n 1, 1) := by decide +kernel
theorem dX12_twin_59 : decode cX12_twin 59 = .ok (.iaload, 1) := by decide +kernel
theorem dX12_twin_60 : decode cX12_twin 60 = .ok (.if_icmp .ge 222, 3) := by decide +kernel
theorem dX12_twin_63 : decode cX12_twin 63 = .ok (.bipush 16, 2) := by decide +kernel
theorem dX12_twin_65 : decode cX12_twin 65 = .ok (.iload_n 1, 1) := by decide +kernel
theorem dX12_twin_66 : decode cX12_twin 66 = .ok (.imul, 1) := by decide +kernel
theorem dX12_twin_67 : decode cX12_twin 67 = .ok (.iload_n 3, 1) := by decide +kernel
theorem dX12_twin_68 : decode cX12_twin 68 = .ok (.iadd, 1) := by decide +kernel
theorem dX12_twin_69 : decode cX12_twin 69 = .ok (.istore 4, 2) := by decide +kernel
theorem dX12_twin_71 : decode cX12_twin 71 = .ok (.bipush 16, 2) := by decide +kernel
theorem dX12_twin_73 : decode cX12_twin 73 = .ok (.iload_n 2, 1) := by decide +kernel
theorem dX12_twin_74 : decode cX12_twin 74 = .ok (.imul, 1) := by decide +kernel
theorem dX12_twin_75 : decode cX12_twin 75 = .ok (.iload_n 3, 1) := by decide +kernel
theorem dX12_twin_76 : decode cX12_twin 76 = .ok (.iadd, 1) := by decide +kernel
theorem dX12_twin_77 : decode cX12_twin 77 = .ok (.istore 5, 2) := by decide +kernel
theorem dX12_twin_79 : decode cX12_twin 79 = .ok (.aload_n 0, 1) := by decide +kernel
theorem dX12_twin_80 : decode cX12_twin 80 = .ok (.getfield 81, 3) := by decide +kernel
theorem dX12_twin_83 : decode cX12_twin 83 = .ok (.iload 5, 2) := by decide +kernel
theorem dX12_twin_85 : decode cX12_twin 85 = .ok (.aload_n 0, 1) := by decide +kernel
theorem dX12_twin_86 : decode cX12_twin 86 = .ok (.getfield 81, 3) := by decide +kernel
theorem dX12_twin_89 : decode cX12_twin 89 = .ok (.iload 4, 2) := by decide +kernel
theorem dX12_twin_91 : decode cX12_twin 91 = .ok (.iaload, 1) := by decide +kernel
theorem dX12_twin_92 : decode cX12_twin 92 = .ok (.iastore, 1) := by decide +kernel
theorem dX12_twin_93 : decode cX12_twin 93 = .ok (.aload_n 0, 1) := by decide +kernel
theorem dX12_twin_94 : decode cX12_twin 94 = .ok (.getfield 84, 3) := by decide +kernel
theorem dX12_twin_97 : decode cX12_twin 97 = .ok (.iload 5, 2) := by decide +kernel
theorem dX12_twin_99 : decode cX12_twin 99 = .ok (.aload_n 0, 1) := by decide +kernel
theorem dX12_twin_100 : decode cX12_twin 100 = .ok (.getfield 84, 3) := by decide +kernel
theorem dX12_twin_103 : decode cX12_twin 103 = .ok (.iload 4, 2) := by decide +kernel
theorem dX12_twin_105 : decode cX12_twin 105 = .ok (.iaload, 1) := by decide +kernel
theorem dX12_twin_106 : decode cX12_twin 106 = .ok (.iastore, 1) := by decide +kernel
theorem dX12_twin_107 : decode cX12_twin 107 = .ok (.aload_n 0, 1) := by decide +kernel
theorem dX12_twin_108 : decode cX12_twin 108 = .ok (.getfield 87, 3) := by decide +kernel
theorem dX12_twin_111 : decode cX12_twin 111 = .ok (.iload 5, 2) := by decide +kernel
theorem dX12_twin_113 : decode cX12_twin 113 = .ok (.aload_n 0, 1) := by decide +kernel
theorem dX12_twin_114 : decode cX12_twin 114 = .ok (.getfield 87, 3) := by decide +kernel
theorem dX12_twin_117 : decode cX12_twin 117 = .ok (.iload 4, 2) := by decide +kernel
theorem dX12_twin_119 : decode cX12_twin 119 = .ok (.iaload, 1) := by decide +kernel
theorem dX12_twin_120 : decode cX12_twin 120 = .ok (.iastore, 1) := by decide +kernel
theorem dX12_twin_121 : decode cX12_twin 121 = .ok (.aload_n 0, 1) := by decide +kernel
theorem dX12_twin_122 : decode cX12_twin 122 = .ok (.getfield 90, 3) := by decide +kernel
theorem dX12_twin_125 : decode cX12_twin 125 = .ok (.iload 5, 2) := by decide +kernel
theorem dX12_twin_127 : decode cX12_twin 127 = .ok (.aload_n 0, 1) := by decide +kernel
theorem dX12_twin_128 : decode cX12_twin 128 = .ok (.getfield 90, 3) := by decide +kernel
theorem dX12_twin_131 : decode cX12_twin 131 = .ok (.iload 4, 2) := by decide +kernel
theorem dX12_twin_133 : decode cX12_twin 133 = .ok (.iaload, 1) := by decide +kernel
theorem dX12_twin_134 : decode cX12_twin 134 = .ok (.iastore, 1) := by decide +kernel
theorem dX12_twin_135 : decode cX12_twin 135 = .ok (.aload_n 0, 1) := by decide +kernel
theorem dX12_twin_136 : decode cX12_twin 136 = .ok (.getfield 93, 3) := by decide +kernel
theorem dX12_twin_139 : decode cX12_twin 139 = .ok (.iload 5, 2) := by decide +kernel
theorem dX12_twin_141 : decode cX12_twin 141 = .ok (.aload_n 0, 1) := by decide +kernel
theorem dX12_twin_142 : decode cX12_twin 142 = .ok (.getfield 93, 3) := by decide +kernel
theorem dX12_twin_145 : decode cX12_twin 145 = .ok (.iload 4, 2) := by decide +kernel
theorem dX12_twin_147 : decode cX12_twin 147 = .ok (.baload, 1) := by decide +kernel
theorem dX12_twin_148 : decode cX12_twin 148 = .ok (.bastore, 1) := by decide +kernel
theorem dX12_twin_149 : decode cX12_twin 149 = .ok (.aload_n 0, 1) := by decide +kernel
theorem dX12_twin_150 : decode cX12_twin 150 = .ok (.getfield 96, 3) := by decide +kernel
theorem dX12_twin_153 : decode cX12_twin 153 = .ok (.iload 5, 2) := by decide +kernel
theorem dX12_twin_155 : decode cX12_twin 155 = .ok (.aload_n 0, 1) := by decide +kernel
theorem dX12_twin_156 : decode cX12_twin 156 = .ok (.getfield 96, 3) := by decide +kernel
theorem dX12_twin_159 : decode cX12_twin 159 = .ok (.iload 4, 2) := by decide +kernel
theorem dX12_twin_161 : decode cX12_twin 161 = .ok (.iaload, 1) := by decide +kernel
theorem dX12_twin_162 : decode cX12_twin 162 = .ok (.iastore, 1) := by decide +kernel
theorem dX12_twin_163 : decode cX12_twin 163 = .ok (.iconst 0, 1) := by decide +kernel
theorem dX12_twin_164 : decode cX12_twin 164 = .ok (.istore 6, 2) := by decide +kernel
theorem dX12_twin_166 : decode cX12_twin 166 = .ok (.iload 6, 2) := by decide +kernel
theorem dX12_twin_168 : decode cX12_twin 168 = .ok (.bipush 30, 2) := by decide +kernel
theorem dX12_twin_170 : decode cX12_twin 170 = .ok (.if_icmp .ge 61, 3) := by decide +kernel
theorem dX12_twin_173 : decode cX12_twin 173 = .ok (.aload_n 0, 1) := by decide +kernel
theorem dX12_twin_174 : decode cX12_twin 174 = .ok (.getfield 99, 3) := by decide +kernel
theorem dX12_twin_177 : decode cX12_twin 177 = .ok (.bipush 30, 2) := by decide +kernel
theorem dX12_twin_179 : decode cX12_twin 179 = .ok (.iload 5, 2) := by decide +kernel
theorem dX12_twin_181 : decode cX12_twin 181 = .ok (.imul, 1) := by decide +kernel
theorem dX12_twin_182 : decode cX12_twin 182 = .ok (.iload 6, 2) := by decide +kernel
theorem dX12_twin_184 : decode cX12_twin 184 = .ok (.iadd, 1) := by decide +kernel
theorem dX12_twin_185 : decode cX12_twin 185 = .ok (.aload_n 0, 1) := by decide +kernel
theorem dX12_twin_186 : decode cX12_twin 186 = .ok (.getfield 99, 3) := by decide +kernel
theorem dX12_twin_189 : decode cX12_twin 189 = .ok (.bipush 30, 2) := by decide +kernel
theorem dX12_twin_191 : decode cX12_twin 191 = .ok (.iload 4, 2) := by decide +kernel
theorem dX12_twin_193 : decode cX12_twin 193 = .ok (.imul, 1) := by decide +kernel
theorem dX12_twin_194 : decode cX12_twin 194 = .ok (.iload 6, 2) := by decide +kernel
theorem dX12_twin_196 : decode cX12_twin 196 = .ok (.iadd, 1) := by decide +kernel
theorem dX12_twin_197 : decode cX12_twin 197 = .ok (.baload, 1) := by decide +kernel
theorem dX12_twin_198 : decode cX12_twin 198 = .ok (.bastore, 1) := by decide +kernel
theorem dX12_twin_199 : decode cX12_twin 199 = .ok (.aload_n 0, 1) := by decide +kernel
theorem dX12_twin_200 : decode cX12_twin 200 = .ok (.getfield 102, 3) := by decide +kernel
theorem dX12_twin_203 : decode cX12_twin 203 = .ok (.bipush 30, 2) := by decide +kernel
theorem dX12_twin_205 : decode cX12_twin 205 = .ok (.iload 5, 2) := by decide +kernel
theorem dX12_twin_207 : decode cX12_twin 207 = .ok (.imul, 1) := by decide +kernel
theorem dX12_twin_208 : decode cX12_twin 208 = .ok (.iload 6, 2) := by decide +kernel
theorem dX12_twin_210 : decode cX12_twin 210 = .ok (.iadd, 1) := by decide +kernel
theorem dX12_twin_211 : decode cX12_twin 211 = .ok (.aload_n 0, 1) := by decide +kernel
theorem dX12_twin_212 : decode cX12_twin 212 = .ok (.getfield 102, 3) := by decide +kernel
theorem dX12_twin_215 : decode cX12_twin 215 = .ok (.bipush 30, 2) := by decide +kernel
theorem dX12_twin_217 : decode cX12_twin 217 = .ok (.iload 4, 2) := by decide +kernel
theorem dX12_twin_219 : decode cX12_twin 219 = .ok (.imul, 1) := by decide +kernel
theorem dX12_twin_220 : decode cX12_twin 220 = .ok (.iload 6, 2) := by decide +kernel
theorem dX12_twin_222 : decode cX12_twin 222 = .ok (.iadd, 1) := by decide +kernel
theorem dX12_twin_223 : decode cX12_twin 223 = .ok (.iaload, 1) := by decide +kernel
theorem dX12_twin_224 : decode cX12_twin 224 = .ok (.iastore, 1) := by decide +kernel
theorem dX12_twin_225 : decode cX12_twin 225 = .ok (.iinc 6 1, 3) := by decide +kernel
theorem dX12_twin_228 : decode cX12_twin 228 = .ok (.goto (-62), 3) := by decide +kernel
theorem dX12_twin_231 : decode cX12_twin 231 = .ok (.iconst 0, 1) := by decide +kernel
theorem dX12_twin_232 : decode cX12_twin 232 = .ok (.istore 6, 2) := by decide +kernel
theorem dX12_twin_234 : decode cX12_twin 234 = .ok (.iload 6, 2) := by decide +kernel
theorem dX12_twin_236 : decode cX12_twin 236 = .ok (.sipush 900, 3) := by decide +kernel
theorem dX12_twin_239 : decode cX12_twin 239 = .ok (.if_icmp .ge 37, 3) := by decide +kernel
theorem dX12_twin_242 : decode cX12_twin 242 = .ok (.aload_n 0, 1) := by decide +kernel
theorem dX12_twin_243 : decode cX12_twin 243 = .ok (.getfield 106, 3) := by decide +kernel
theorem dX12_twin_246 : decode cX12_twin 246 = .ok (.sipush 900, 3) := by decide +kernel
theorem dX12_twin_249 : decode cX12_twin 249 = .ok (.iload 5, 2) := by decide +kernel
theorem dX12_twin_251 : decode cX12_twin 251 = .ok (.imul, 1) := by decide +kernel
theorem dX12_twin_252 : decode cX12_twin 252 = .ok (.iload 6, 2) := by decide +kernel
theorem dX12_twin_254 : decode cX12_twin 254 = .ok (.iadd, 1) := by decide +kernel
theorem dX12_twin_255 : decode cX12_twin 255 = .ok (.aload_n 0, 1) := by decide +kernel
theorem dX12_twin_256 : decode cX12_twin 256 = .ok (.getfield 106, 3) := by decide +kernel
theorem dX12_twin_259 : decode cX12_twin 259 = .ok (.sipush 900, 3) := by decide +kernel
theorem dX12_twin_262 : decode cX12_twin 262 = .ok (.iload 4, 2) := by decide +kernel
theorem dX12_twin_264 : decode cX12_twin 264 = .ok (.imul, 1) := by decide +kernel
theorem dX12_twin_265 : decode cX12_twin 265 = .ok (.iload 6, 2) := by decide +kernel
theorem dX12_twin_267 : decode cX12_twin 267 = .ok (.iadd, 1) := by decide +kernel
theorem dX12_twin_268 : decode cX12_twin 268 = .ok (.laload, 1) := by decide +kernel
theorem dX12_twin_269 : decode cX12_twin 269 = .ok (.lastore, 1) := by decide +kernel
theorem dX12_twin_270 : decode cX12_twin 270 = .ok (.iinc 6 1, 3) := by decide +kernel
theorem dX12_twin_273 : decode cX12_twin 273 = .ok (.goto (-39), 3) := by decide +kernel
theorem dX12_twin_276 : decode cX12_twin 276 = .ok (.iinc 3 1, 3) := by decide +kernel
theorem dX12_twin_279 : decode cX12_twin 279 = .ok (.goto (-226), 3) := by decide +kernel
theorem dX12_twin_282 : decode cX12_twin 282 = .ok (.aload_n 0, 1) := by decide +kernel
theorem dX12_twin_283 : decode cX12_twin 283 = .ok (.dup, 1) := by decide +kernel
theorem dX12_twin_284 : decode cX12_twin 284 = .ok (.getfield 211, 3) := by decide +kernel
theorem dX12_twin_287 : decode cX12_twin 287 = .ok (.iconst 1, 1) := by decide +kernel
theorem dX12_twin_288 : decode cX12_twin 288 = .ok (.iadd, 1) := by decide +kernel
theorem dX12_twin_289 : decode cX12_twin 289 = .ok (.putfield 211, 3) := by decide +kernel
theorem dX12_twin_292 : decode cX12_twin 292 = .ok (.iload_n 2, 1) := by decide +kernel
theorem dX12_twin_293 : decode cX12_twin 293 = .ok (.ireturn, 1) := by decide +kernel
def fn_X12_twin_b234 (rc53 : mz_H → (Option Nat) → Int32 → Int32 → Int32 → mz_Res Int32) : Nat → mz_H → (Option Nat) → Int32 → Int32 → Int32 → Int32 → Int32 → Int32 → mz_Res Int32
  | 0, _, _, _, _, _, _, _, _ => none
  | n + 1, h, a0, x1, x2, x3, x4, x5, x6 =>
    if 900 ≤ x6 then
      mz_op (some (x3 + 1)) fun v1 =>
      rc53 h a0 x1 x2 v1
    else
      mz_op (mz_fR h a0 11 43) fun v2 =>
      mz_op (mz_fR h a0 11 43) fun v3 =>
      mz_op (mz_aJ h v3 ((900 * x4) + x6)) fun v4 =>
      mz_op (mz_sJ h v2 ((900 * x5) + x6) v4) fun h =>
      mz_op (some (x6 + 1)) fun v5 =>
      fn_X12_twin_b234 rc53 n h a0 x1 x2 x3 x4 x5 v5
set_option maxHeartbeats 4000000 in
set_option maxRecDepth 100000 in
theorem pf_X12_twin_b234 (r : Int32) (Y : mz_Y p g RX12 cX12_twin 7 (some .int) "twin" (mz_AF h0) s m args meth c) {rc53 : mz_H → (Option Nat) → Int32 → Int32 → Int32 → mz_Res Int32} (hrc53 : ∀ (h : mz_H) (a0 : (Option Nat)) (x1 : Int32) (x2 : Int32) (x3 : Int32) (dc ds : Nat), rc53 h a0 x1 x2 x3 = some (r, hf, dc, ds) → mz_Go l g p e s m args below meth c 1 21 DC DS h0 (some (Value.int r)) hf 7 53 [(0, false, va_rf a0), (1, false, .int x1), (2, false, .int x2), (3, false, .int x3)] [] h dc ds) : ∀ (n : Nat) (h : mz_H) (a0 : (Option Nat)) (x1 : Int32) (x2 : Int32) (x3 : Int32) (x4 : Int32) (x5 : Int32) (x6 : Int32) (dc ds : Nat), fn_X12_twin_b234 rc53 n h a0 x1 x2 x3 x4 x5 x6 = some (r, hf, dc, ds) → mz_Go l g p e s m args below meth c 1 21 DC DS h0 (some (Value.int r)) hf 7 234 [(0, false, va_rf a0), (1, false, .int x1), (2, false, .int x2), (3, false, .int x3), (4, false, .int x4), (5, false, .int x5), (6, false, .int x6)] [] h dc ds := by
  have X := Y.1
  intro n
  induction n with
  | zero => intro h a0 x1 x2 x3 x4 x5 x6 dc ds hr; simp [fn_X12_twin_b234] at hr
  | succ n ih =>
    intro h a0 x1 x2 x3 x4 x5 x6 dc ds hr
    rw [fn_X12_twin_b234] at hr
    intro H locs cells slots ls hH hS hl hc hs
    refine lv_iload X.1 X.2.1 dX12_twin_234 (mz_at hl 6 rfl) ?_
    refine lv_sipush (v := 900) X.1 X.2.1 dX12_twin_236 (by decide) ?_
    refine mz_icmp_ge X 276 dX12_twin_239 (by decide) hr (fun hr => ?_) (fun hr => ?_)
    · obtain ⟨v1, hv1, hr⟩ := mz_op_some hr
      have hv1 := Option.some.inj hv1
      refine mz_iinc (k := 3) X [(3, false, .int v1), (0, false, va_rf a0), (1, false, .int x1), (2, false, .int x2), (4, false, .int x4), (5, false, .int x5), (6, false, .int x6)] v1 dX12_twin_276 hl rfl hv1 (by decide) rfl (fun ls hl => ?_)
      refine lv_goto (tgt := 53) X.1 X.2.1 dX12_twin_279 (by decide) ?_
      exact hrc53 h a0 x1 x2 v1 _ _ hr H locs cells slots ls hH hS (mz_sub hl [1, 2, 3, 0] rfl) hc hs
    · refine mz_aload_n X dX12_twin_242 rfl (mz_at hl 0 rfl) ?_
      refine mz_getR X hH fl_RX12_106 dX12_twin_243 hr (fun v2 hr => ?_)
      refine lv_sipush (v := 900) X.1 X.2.1 dX12_twin_246 (by decide) ?_
      refine lv_iload X.1 X.2.1 dX12_twin_249 (mz_at hl 5 rfl) ?_
      refine lv_imul X.1 X.2.1 dX12_twin_251 ?_
      refine lv_iload X.1 X.2.1 dX12_twin_252 (mz_at hl 6 rfl) ?_
      refine lv_iadd X.1 X.2.1 dX12_twin_254 ?_
      refine mz_aload_n X dX12_twin_255 rfl (mz_at hl 0 rfl) ?_
      refine mz_getR X hH fl_RX12_106 dX12_twin_256 hr (fun v3 hr => ?_)
      refine lv_sipush (v := 900) X.1 X.2.1 dX12_twin_259 (by decide) ?_
      refine lv_iload X.1 X.2.1 dX12_twin_262 (mz_at hl 4 rfl) ?_
      refine lv_imul X.1 X.2.1 dX12_twin_264 ?_
      refine lv_iload X.1 X.2.1 dX12_twin_265 (mz_at hl 6 rfl) ?_
      refine lv_iadd X.1 X.2.1 dX12_twin_267 ?_
      refine mz_lald X hH dX12_twin_268 hr (fun v4 hr => ?_)
      refine mz_last X hH hS dX12_twin_269 hr (fun h H locs hr hH hS => ?_)
      obtain ⟨v5, hv5, hr⟩ := mz_op_some hr
      have hv5 := Option.some.inj hv5
      refine mz_iinc (k := 6) X [(6, false, .int v5), (0, false, va_rf a0), (1, false, .int x1), (2, false, .int x2), (3, false, .int x3), (4, false, .int x4), (5, false, .int x5)] v5 dX12_twin_270 hl rfl hv5 (by decide) rfl (fun ls hl => ?_)
      refine lv_goto (tgt := 234) X.1 X.2.1 dX12_twin_273 (by decide) ?_
      exact ih h a0 x1 x2 x3 x4 x5 v5 _ _ hr H locs cells slots ls hH hS (mz_sub hl [1, 2, 3, 4, 5, 6, 0] rfl) hc hs
def fn_X12_twin_b166 (rc53 : mz_H → (Option Nat) → Int32 → Int32 → Int32 → mz_Res Int32) : Nat → mz_H → (Option Nat) → Int32 → Int32 → Int32 → Int32 → Int32 → Int32 → mz_Res Int32
  | 0, _, _, _, _, _, _, _, _ => none
  | n + 1, h, a0, x1, x2, x3, x4, x5, x6 =>
    if 30 ≤ x6 then
      fn_X12_twin_b234 rc53 1001 h a0 x1 x2 x3 x4 x5 0
    else
      mz_op (mz_fR h a0 11 41) fun v1 =>
      mz_op (mz_fR h a0 11 41) fun v2 =>
      mz_op (mz_aI h v2 2 ((30 * x4) + x6)) fun v3 =>
      mz_op (mz_sI h v1 2 ((30 * x5) + x6) (v3 &&& 1)) fun h =>
      mz_op (mz_fR h a0 11 42) fun v4 =>
      mz_op (mz_fR h a0 11 42) fun v5 =>
      mz_op (mz_aI h v5 0 ((30 * x4) + x6)) fun v6 =>
      mz_op (mz_sI h v4 0 ((30 * x5) + x6) v6) fun h =>
      mz_op (some (x6 + 1)) fun v7 =>
      fn_X12_twin_b166 rc53 n h a0 x1 x2 x3 x4 x5 v7
set_option maxHeartbeats 4000000 in
set_option maxRecDepth 100000 in
theorem pf_X12_twin_b166 (r : Int32) (Y : mz_Y p g RX12 cX12_twin 7 (some .int) "twin" (mz_AF h0) s m args meth c) {rc53 : mz_H → (Option Nat) → Int32 → Int32 → Int32 → mz_Res Int32} (hrc53 : ∀ (h : mz_H) (a0 : (Option Nat)) (x1 : Int32) (x2 : Int32) (x3 : Int32) (dc ds : Nat), rc53 h a0 x1 x2 x3 = some (r, hf, dc, ds) → mz_Go l g p e s m args below meth c 1 21 DC DS h0 (some (Value.int r)) hf 7 53 [(0, false, va_rf a0), (1, false, .int x1), (2, false, .int x2), (3, false, .int x3)] [] h dc ds) : ∀ (n : Nat) (h : mz_H) (a0 : (Option Nat)) (x1 : Int32) (x2 : Int32) (x3 : Int32) (x4 : Int32) (x5 : Int32) (x6 : Int32) (dc ds : Nat), fn_X12_twin_b166 rc53 n h a0 x1 x2 x3 x4 x5 x6 = some (r, hf, dc, ds) → mz_Go l g p e s m args below meth c 1 21 DC DS h0 (some (Value.int r)) hf 7 166 [(0, false, va_rf a0), (1, false, .int x1), (2, false, .int x2), (3, false, .int x3), (4, false, .int x4), (5, false, .int x5), (6, false, .int x6)] [] h dc ds := by
  have X := Y.1
  intro n
  induction n with
  | zero => intro h a0 x1 x2 x3 x4 x5 x6 dc ds hr; simp [fn_X12_twin_b166] at hr
  | succ n ih =>
    intro h a0 x1 x2 x3 x4 x5 x6 dc ds hr
    rw [fn_X12_twin_b166] at hr
    intro H locs cells slots ls hH hS hl hc hs
    refine lv_iload X.1 X.2.1 dX12_twin_166 (mz_at hl 6 rfl) ?_
    refine lv_bipush (v := 30) X.1 X.2.1 dX12_twin_168 (by decide) ?_
    refine mz_icmp_ge X 231 dX12_twin_170 (by decide) hr (fun hr => ?_) (fun hr => ?_)
    · refine lv_iconst (v := 0) X.1 X.2.1 dX12_twin_231 (by decide) ?_
      refine mz_istore X [(6, false, .int 0), (0, false, va_rf a0), (1, false, .int x1), (2, false, .int x2), (3, false, .int x3), (4, false, .int x4), (5, false, .int x5)] dX12_twin_232 hl (by decide) rfl (fun ls hl => ?_)
      exact pf_X12_twin_b234 r Y hrc53 1001 h a0 x1 x2 x3 x4 x5 0 _ _ hr H locs cells slots ls hH hS (mz_sub hl [1, 2, 3, 4, 5, 6, 0] rfl) hc hs
    · refine mz_aload_n X dX12_twin_173 rfl (mz_at hl 0 rfl) ?_
      refine mz_getR X hH fl_RX12_99 dX12_twin_174 hr (fun v1 hr => ?_)
      refine lv_bipush (v := 30) X.1 X.2.1 dX12_twin_177 (by decide) ?_
      refine lv_iload X.1 X.2.1 dX12_twin_179 (mz_at hl 5 rfl) ?_
      refine lv_imul X.1 X.2.1 dX12_twin_181 ?_
      refine lv_iload X.1 X.2.1 dX12_twin_182 (mz_at hl 6 rfl) ?_
      refine lv_iadd X.1 X.2.1 dX12_twin_184 ?_
      refine mz_aload_n X dX12_twin_185 rfl (mz_at hl 0 rfl) ?_
      refine mz_getR X hH fl_RX12_99 dX12_twin_186 hr (fun v2 hr => ?_)
      refine lv_bipush (v := 30) X.1 X.2.1 dX12_twin_189 (by decide) ?_
      refine lv_iload X.1 X.2.1 dX12_twin_191 (mz_at hl 4 rfl) ?_
      refine lv_imul X.1 X.2.1 dX12_twin_193 ?_
      refine lv_iload X.1 X.2.1 dX12_twin_194 (mz_at hl 6 rfl) ?_
      refine lv_iadd X.1 X.2.1 dX12_twin_196 ?_
      refine mz_zald X hH dX12_twin_197 hr (fun v3 hr => ?_)
      refine mz_zast X hH hS dX12_twin_198 hr (fun h H locs hr hH hS => ?_)
      refine mz_aload_n X dX12_twin_199 rfl (mz_at hl 0 rfl) ?_
      refine mz_getR X hH fl_RX12_102 dX12_twin_200 hr (fun v4 hr => ?_)
      refine lv_bipush (v := 30) X.1 X.2.1 dX12_twin_203 (by decide) ?_
      refine lv_iload X.1 X.2.1 dX12_twin_205 (mz_at hl 5 rfl) ?_
      refine lv_imul X.1 X.2.1 dX12_twin_207 ?_
      refine lv_iload X.1 X.2.1 dX12_twin_208 (mz_at hl 6 rfl) ?_
      refine lv_iadd X.1 X.2.1 dX12_twin_210 ?_
      refine mz_aload_n X dX12_twin_211 rfl (mz_at hl 0 rfl) ?_
      refine mz_getR X hH fl_RX12_102 dX12_twin_212 hr (fun v5 hr => ?_)
      refine lv_bipush (v := 30) X.1 X.2.1 dX12_twin_215 (by decide) ?_
      refine lv_iload X.1 X.2.1 dX12_twin_217 (mz_at hl 4 rfl) ?_
      refine lv_imul X.1 X.2.1 dX12_twin_219 ?_
      refine lv_iload X.1 X.2.1 dX12_twin_220 (mz_at hl 6 rfl) ?_
      refine lv_iadd X.1 X.2.1 dX12_twin_222 ?_
      refine mz_iald X hH dX12_twin_223 hr (fun v6 hr => ?_)
      refine mz_iast X hH hS dX12_twin_224 hr (fun h H locs hr hH hS => ?_)
      obtain ⟨v7, hv7, hr⟩ := mz_op_some hr
      have hv7 := Option.some.inj hv7
      refine mz_iinc (k := 6) X [(6, false, .int v7), (0, false, va_rf a0), (1, false, .int x1), (2, false, .int x2), (3, false, .int x3), (4, false, .int x4), (5, false, .int x5)] v7 dX12_twin_225 hl rfl hv7 (by decide) rfl (fun ls hl => ?_)
      refine lv_goto (tgt := 166) X.1 X.2.1 dX12_twin_228 (by decide) ?_
      exact ih h a0 x1 x2 x3 x4 x5 v7 _ _ hr H locs cells slots ls hH hS (mz_sub hl [1, 2, 3, 4, 5, 6, 0] rfl) hc hs
def fn_X12_twin_b53 : Nat → mz_H → (Option Nat) → Int32 → Int32 → Int32 → mz_Res Int32
  | 0, _, _, _, _, _ => none
  | n + 1, h, a0, x1, x2, x3 =>
    mz_op (mz_fR h a0 11 34) fun v1 =>
    mz_op (mz_aI h v1 0 x1) fun v2 =>
    if v2 ≤ x3 then
      mz_op (mz_fI h a0 11 32) fun v3 =>
      mz_op (mz_pF h a0 11 32 (Value.int (v3 + 1))) fun h =>
      mz_ret x2 h
    else
      mz_op (some ((16 * x1) + x3)) fun v4 =>
      mz_op (some ((16 * x2) + x3)) fun v5 =>
      mz_op (mz_fR h a0 11 35) fun v6 =>
      mz_op (mz_fR h a0 11 35) fun v7 =>
      mz_op (mz_aI h v7 0 v4) fun v8 =>
      mz_op (mz_sI h v6 0 v5 v8) fun h =>
      mz_op (mz_fR h a0 11 36) fun v9 =>
      mz_op (mz_fR h a0 11 36) fun v10 =>
      mz_op (mz_aI h v10 0 v4) fun v11 =>
      mz_op (mz_sI h v9 0 v5 v11) fun h =>
      mz_op (mz_fR h a0 11 37) fun v12 =>
      mz_op (mz_fR h a0 11 37) fun v13 =>
      mz_op (mz_aI h v13 0 v4) fun v14 =>
      mz_op (mz_sI h v12 0 v5 v14) fun h =>
      mz_op (mz_fR h a0 11 38) fun v15 =>
      mz_op (mz_fR h a0 11 38) fun v16 =>
      mz_op (mz_aI h v16 0 v4) fun v17 =>
      mz_op (mz_sI h v15 0 v5 v17) fun h =>
      mz_op (mz_fR h a0 11 39) fun v18 =>
      mz_op (mz_fR h a0 11 39) fun v19 =>
      mz_op (mz_aI h v19 2 v4) fun v20 =>
      mz_op (mz_sI h v18 2 v5 (v20 &&& 1)) fun h =>
      mz_op (mz_fR h a0 11 40) fun v21 =>
      mz_op (mz_fR h a0 11 40) fun v22 =>
      mz_op (mz_aI h v22 0 v4) fun v23 =>
      mz_op (mz_sI h v21 0 v5 v23) fun h =>
      fn_X12_twin_b166 (fn_X12_twin_b53 n) 1001 h a0 x1 x2 x3 v4 v5 0
set_option maxHeartbeats 4000000 in
set_option maxRecDepth 100000 in
theorem pf_X12_twin_b53 (r : Int32) (Y : mz_Y p g RX12 cX12_twin 7 (some .int) "twin" (mz_AF h0) s m args meth c) : ∀ (n : Nat) (h : mz_H) (a0 : (Option Nat)) (x1 : Int32) (x2 : Int32) (x3 : Int32) (dc ds : Nat), fn_X12_twin_b53 n h a0 x1 x2 x3 = some (r, hf, dc, ds) → mz_Go l g p e s m args below meth c 1 21 DC DS h0 (some (Value.int r)) hf 7 53 [(0, false, va_rf a0), (1, false, .int x1), (2, false, .int x2), (3, false, .int x3)] [] h dc ds := by
  have X := Y.1
  intro n
  induction n with
  | zero => intro h a0 x1 x2 x3 dc ds hr; simp [fn_X12_twin_b53] at hr
  | succ n ih =>
    intro h a0 x1 x2 x3 dc ds hr
    rw [fn_X12_twin_b53] at hr
    intro H locs cells slots ls hH hS hl hc hs
    refine lv_iload_n X.1 X.2.1 dX12_twin_53 rfl (mz_at hl 3 rfl) ?_
    refine mz_aload_n X dX12_twin_54 rfl (mz_at hl 0 rfl) ?_
    refine mz_getR X hH fl_RX12_78 dX12_twin_55 hr (fun v1 hr => ?_)
    refine lv_iload_n X.1 X.2.1 dX12_twin_58 rfl (mz_at hl 1 rfl) ?_
    refine mz_iald X hH dX12_twin_59 hr (fun v2 hr => ?_)
    refine mz_icmp_ge X 282 dX12_twin_60 (by decide) hr (fun hr => ?_) (fun hr => ?_)
    · refine mz_aload_n X dX12_twin_282 rfl (mz_at hl 0 rfl) ?_
      refine mz_dupR X dX12_twin_283 ?_
      refine mz_getI X hH fl_RX12_211 dX12_twin_284 hr (fun v3 hr => ?_)
      refine lv_iconst (v := 1) X.1 X.2.1 dX12_twin_287 (by decide) ?_
      refine lv_iadd X.1 X.2.1 dX12_twin_288 ?_
      refine mz_put X hH hS fp_RX12_211 dX12_twin_289 rfl rfl hr (fun h H locs hr hH hS => ?_)
      refine lv_iload_n X.1 X.2.1 dX12_twin_292 rfl (mz_at hl 2 rfl) ?_
      exact mz_iret Y dX12_twin_293 hH hS hc hs hr
    · refine lv_bipush (v := 16) X.1 X.2.1 dX12_twin_63 (by decide) ?_
      refine lv_iload_n X.1 X.2.1 dX12_twin_65 rfl (mz_at hl 1 rfl) ?_
      refine lv_imul X.1 X.2.1 dX12_twin_66 ?_
      refine lv_iload_n X.1 X.2.1 dX12_twin_67 rfl (mz_at hl 3 rfl) ?_
      refine lv_iadd X.1 X.2.1 dX12_twin_68 ?_
      refine mz_topi hr (fun v4 hv4 hr => ?_)
      refine mz_istore X [(4, false, .int v4), (0, false, va_rf a0), (1, false, .int x1), (2, false, .int x2), (3, false, .int x3)] dX12_twin_69 hl (by decide) rfl (fun ls hl => ?_)
      refine lv_bipush (v := 16) X.1 X.2.1 dX12_twin_71 (by decide) ?_
      refine lv_iload_n X.1 X.2.1 dX12_twin_73 rfl (mz_at hl 3 rfl) ?_
      refine lv_imul X.1 X.2.1 dX12_twin_74 ?_
      refine lv_iload_n X.1 X.2.1 dX12_twin_75 rfl (mz_at hl 4 rfl) ?_
      refine lv_iadd X.1 X.2.1 dX12_twin_76 ?_
      refine mz_topi hr (fun v5 hv5 hr => ?_)
      refine mz_istore X [(5, false, .int v5), (4, false, .int v4), (0, false, va_rf a0), (1, false, .int x1), (2, false, .int x2), (3, false, .int x3)] dX12_twin_77 hl (by decide) rfl (fun ls hl => ?_)
      refine mz_aload_n X dX12_twin_79 rfl (mz_at hl 2 rfl) ?_
      refine mz_getR X hH fl_RX12_81 dX12_twin_80 hr (fun v6 hr => ?_)
      refine lv_iload X.1 X.2.1 dX12_twin_83 (mz_at hl 0 rfl) ?_
      refine mz_aload_n X dX12_twin_85 rfl (mz_at hl 2 rfl) ?_
      refine mz_getR X hH fl_RX12_81 dX12_twin_86 hr (fun v7 hr => ?_)
      refine lv_iload X.1 X.2.1 dX12_twin_89 (mz_at hl 1 rfl) ?_
      refine mz_iald X hH dX12_twin_91 hr (fun v8 hr => ?_)
      refine mz_iast X hH hS dX12_twin_92 hr (fun h H locs hr hH hS => ?_)
      refine mz_aload_n X dX12_twin_93 rfl (mz_at hl 2 rfl) ?_
      refine mz_getR X hH fl_RX12_84 dX12_twin_94 hr (fun v9 hr => ?_)
      refine lv_iload X.1 X.2.1 dX12_twin_97 (mz_at hl 0 rfl) ?_
      refine mz_aload_n X dX12_twin_99 rfl (mz_at hl 2 rfl) ?_
      refine mz_getR X hH fl_RX12_84 dX12_twin_100 hr (fun v10 hr => ?_)
      refine lv_iload X.1 X.2.1 dX12_twin_103 (mz_at hl 1 rfl) ?_
      refine mz_iald X hH dX12_twin_105 hr (fun v11 hr => ?_)
      refine mz_iast X hH hS dX12_twin_106 hr (fun h H locs hr hH hS => ?_)
      refine mz_aload_n X dX12_twin_107 rfl (mz_at hl 2 rfl) ?_
      refine mz_getR X hH fl_RX12_87 dX12_twin_108 hr (fun v12 hr => ?_)
      refine lv_iload X.1 X.2.1 dX12_twin_111 (mz_at hl 0 rfl) ?_
      refine mz_aload_n X dX12_twin_113 rfl (mz_at hl 2 rfl) ?_
      refine mz_getR X hH fl_RX12_87 dX12_twin_114 hr (fun v13 hr => ?_)
      refine lv_iload X.1 X.2.1 dX12_twin_117 (mz_at hl 1 rfl) ?_
      refine mz_iald X hH dX12_twin_119 hr (fun v14 hr => ?_)
      refine mz_iast X hH hS dX12_twin_120 hr (fun h H locs hr hH hS => ?_)
      refine mz_aload_n X dX12_twin_121 rfl (mz_at hl 2 rfl) ?_
      refine mz_getR X hH fl_RX12_90 dX12_twin_122 hr (fun v15 hr => ?_)
      refine lv_iload X.1 X.2.1 dX12_twin_125 (mz_at hl 0 rfl) ?_
      refine mz_aload_n X dX12_twin_127 rfl (mz_at hl 2 rfl) ?_
      refine mz_getR X hH fl_RX12_90 dX12_twin_128 hr (fun v16 hr => ?_)
      refine lv_iload X.1 X.2.1 dX12_twin_131 (mz_at hl 1 rfl) ?_
      refine mz_iald X hH dX12_twin_133 hr (fun v17 hr => ?_)
      refine mz_iast X hH hS dX12_twin_134 hr (fun h H locs hr hH hS => ?_)
      refine mz_aload_n X dX12_twin_135 rfl (mz_at hl 2 rfl) ?_
      refine mz_getR X hH fl_RX12_93 dX12_twin_136 hr (fun v18 hr => ?_)
      refine lv_iload X.1 X.2.1 dX12_twin_139 (mz_at hl 0 rfl) ?_
      refine mz_aload_n X dX12_twin_141 rfl (mz_at hl 2 rfl) ?_
      refine mz_getR X hH fl_RX12_93 dX12_twin_142 hr (fun v19 hr => ?_)
      refine lv_iload X.1 X.2.1 dX12_twin_145 (mz_at hl 1 rfl) ?_
      refine mz_zald X hH dX12_twin_147 hr (fun v20 hr => ?_)
      refine mz_zast X hH hS dX12_twin_148 hr (fun h H locs hr hH hS => ?_)
      refine mz_aload_n X dX12_twin_149 rfl (mz_at hl 2 rfl) ?_
      refine mz_getR X hH fl_RX12_96 dX12_twin_150 hr (fun v21 hr => ?_)
      refine lv_iload X.1 X.2.1 dX12_twin_153 (mz_at hl 0 rfl) ?_
      refine mz_aload_n X dX12_twin_155 rfl (mz_at hl 2 rfl) ?_
      refine mz_getR X hH fl_RX12_96 dX12_twin_156 hr (fun v22 hr => ?_)
      refine lv_iload X.1 X.2.1 dX12_twin_159 (mz_at hl 1 rfl) ?_
      refine mz_iald X hH dX12_twin_161 hr (fun v23 hr => ?_)
      refine mz_iast X hH hS dX12_twin_162 hr (fun h H locs hr hH hS => ?_)
      refine lv_iconst (v := 0) X.1 X.2.1 dX12_twin_163 (by decide) ?_
      refine mz_istore X [(6, false, .int 0), (5, false, .int v5), (4, false, .int v4), (0, false, va_rf a0), (1, false, .int x1), (2, false, .int x2), (3, false, .int x3)] dX12_twin_164 hl (by decide) rfl (fun ls hl => ?_)
      exact pf_X12_twin_b166 r Y ih 1001 h a0 x1 x2 x3 v4 v5 0 _ _ hr H locs cells slots ls hH hS (mz_sub hl [3, 4, 5, 6, 2, 1, 0] rfl) hc hs
def fn_X12_twin (h : mz_H) (a0 : (Option Nat)) (x1 : Int32) : mz_Res Int32 :=
  mz_chk (mz_is h a0 11) <| mz_call (fn_X12_isObject h a0 x1) fun v1 h =>
  if v1 = 0 then
    mz_ret (-1) h
  else
    mz_op (mz_fI h a0 11 32) fun v2 =>
    if v2 = 60 then
      mz_ret (-4) h
    else
      mz_op (mz_fI h a0 11 32) fun v3 =>
      mz_op (mz_fR h a0 11 33) fun v4 =>
      mz_op (mz_fR h a0 11 33) fun v5 =>
      mz_op (mz_aI h v5 0 x1) fun v6 =>
      mz_op (mz_sI h v4 0 v3 v6) fun h =>
      mz_op (mz_fR h a0 11 34) fun v7 =>
      mz_op (mz_fR h a0 11 34) fun v8 =>
      mz_op (mz_aI h v8 0 x1) fun v9 =>
      mz_op (mz_sI h v7 0 v3 v9) fun h =>
      fn_X12_twin_b53 1001 h a0 x1 v3 0
set_option maxHeartbeats 4000000 in
set_option maxRecDepth 100000 in
theorem pf_X12_twin_b0 (r : Int32) (Y : mz_Y p g RX12 cX12_twin 7 (some .int) "twin" (mz_AF h0) s m args meth c) (h : mz_H) (a0 : (Option Nat)) (x1 : Int32) (dc ds : Nat) (hr : fn_X12_twin h a0 x1 = some (r, hf, dc, ds)) : mz_Go l g p e s m args below meth c 1 21 DC DS h0 (some (Value.int r)) hf 7 0 [(0, false, va_rf a0), (1, false, .int x1)] [] h dc ds := by
  unfold fn_X12_twin at hr
  intro H locs cells slots ls hH hS hl hc hs
  have X := Y.1
  refine mz_aload_n X dX12_twin_0 rfl (mz_at hl 0 rfl) ?_
  refine lv_iload_n X.1 X.2.1 dX12_twin_1 rfl (mz_at hl 1 rfl) ?_
  refine mz_kV Value.int X hH hS hl.1.1 [.int x1] [] hr (ct_X12_isObject l g h a0 x1) mb_RX12_214 rfl im_X12_isObject rfl (Nat.le_of_ble_eq_true rfl) ⟨Nat.le_of_ble_eq_true rfl, Nat.le_of_ble_eq_true rfl⟩ hc hs dX12_twin_2 rfl (fun v1 h H locs cells slots dc ds hr hH hS hc hs => ?_)
  refine mz_if_ne X 10 dX12_twin_5 (by decide) hr (fun hr => ?_) (fun hr => ?_)
  · refine mz_aload_n X dX12_twin_10 rfl (mz_at hl 0 rfl) ?_
    refine mz_getI X hH fl_RX12_211 dX12_twin_11 hr (fun v2 hr => ?_)
    refine lv_bipush (v := 60) X.1 X.2.1 dX12_twin_14 (by decide) ?_
    refine mz_icmp_ne X 22 dX12_twin_16 (by decide) hr (fun hr => ?_) (fun hr => ?_)
    · refine mz_aload_n X dX12_twin_22 rfl (mz_at hl 0 rfl) ?_
      refine mz_getI X hH fl_RX12_211 dX12_twin_23 hr (fun v3 hr => ?_)
      refine mz_istore_n X [(2, false, .int v3), (0, false, va_rf a0), (1, false, .int x1)] dX12_twin_26 rfl hl (by decide) rfl (fun ls hl => ?_)
      refine mz_aload_n X dX12_twin_27 rfl (mz_at hl 1 rfl) ?_
      refine mz_getR X hH fl_RX12_75 dX12_twin_28 hr (fun v4 hr => ?_)
      refine lv_iload_n X.1 X.2.1 dX12_twin_31 rfl (mz_at hl 0 rfl) ?_
      refine mz_aload_n X dX12_twin_32 rfl (mz_at hl 1 rfl) ?_
      refine mz_getR X hH fl_RX12_75 dX12_twin_33 hr (fun v5 hr => ?_)
      refine lv_iload_n X.1 X.2.1 dX12_twin_36 rfl (mz_at hl 2 rfl) ?_
      refine mz_iald X hH dX12_twin_37 hr (fun v6 hr => ?_)
      refine mz_iast X hH hS dX12_twin_38 hr (fun h H locs hr hH hS => ?_)
      refine mz_aload_n X dX12_twin_39 rfl (mz_at hl 1 rfl) ?_
      refine mz_getR X hH fl_RX12_78 dX12_twin_40 hr (fun v7 hr => ?_)
      refine lv_iload_n X.1 X.2.1 dX12_twin_43 rfl (mz_at hl 0 rfl) ?_
      refine mz_aload_n X dX12_twin_44 rfl (mz_at hl 1 rfl) ?_
      refine mz_getR X hH fl_RX12_78 dX12_twin_45 hr (fun v8 hr => ?_)
      refine lv_iload_n X.1 X.2.1 dX12_twin_48 rfl (mz_at hl 2 rfl) ?_
      refine mz_iald X hH dX12_twin_49 hr (fun v9 hr => ?_)
      refine mz_iast X hH hS dX12_twin_50 hr (fun h H locs hr hH hS => ?_)
      refine lv_iconst (v := 0) X.1 X.2.1 dX12_twin_51 (by decide) ?_
      refine mz_istore_n X [(3, false, .int 0), (2, false, .int v3), (0, false, va_rf a0), (1, false, .int x1)] dX12_twin_52 rfl hl (by decide) rfl (fun ls hl => ?_)
      exact pf_X12_twin_b53 r Y 1001 h a0 x1 v3 0 _ _ hr H locs cells slots ls hH hS (mz_sub hl [2, 3, 1, 0] rfl) hc hs
    · refine lv_bipush (v := (-4)) X.1 X.2.1 dX12_twin_19 (by decide) ?_
      exact mz_iret Y dX12_twin_21 hH hS hc hs hr
  · refine lv_iconst (v := (-1)) X.1 X.2.1 dX12_twin_8 (by decide) ?_
    exact mz_iret Y dX12_twin_9 hH hS hc hs hr
set_option maxRecDepth 100000 in
theorem ct_X12_twin (l : Launch) (g : mz_G) (h : mz_H) (a0 : (Option Nat)) (x1 : Int32) (r : Int32) (hf : mz_H) (k n : Nat) (hr : fn_X12_twin h a0 x1 = some (r, hf, k, n)) : mz_C l g yX12_twin cX12_twin 7 (some .int) 1 21 [va_rf a0, .int x1] h (some (Value.int r)) hf k n := by
  refine mz_met (as := [(false, va_rf a0), (false, .int x1)]) (plainFor_of_name (by decide)) (mz_c1 (mz_cat_rf _) (mz_c1 rfl mz_c0)) (Nat.le_of_ble_eq_true rfl) ?_
  intro p e s m args below meth c Y
  exact pf_X12_twin_b0 r Y h a0 x1 _ _ hr
end

/-! X11_row X11_inner X11_drop X11_size X11_zeroAfter X11_get X11_put X11_set X11_link X11_faultOfRow X11_as X11_wide X11_copy -/
section
variable {p : Program} {l : Launch} {e : Env} {s : State} {m : MethodId} {args : Array Value} {below : List Frame} {meth : Method} {c : Code} {g : mz_G} {h0 hf : mz_H} {DC DS : Nat}
theorem dX11_row_0 : decode cX11_row 0 = .ok (.aload_n 0, 1) := by decide +kernel
theorem dX11_row_1 : decode cX11_row 1 = .ok (.iconst 0, 1) := by decide +kernel
theorem dX11_row_2 : decode cX11_row 2 = .ok (.putfield 185, 3) := by decide +kernel
theorem dX11_row_5 : decode cX11_row 5 = .ok (.aload_n 0, 1) := by decide +kernel
theorem dX11_row_6 : decode cX11_row 6 = .ok (.iload_n 1, 1) := by decide +kernel
theorem dX11_row_7 : decode cX11_row 7 = .ok (.iload_n 2, 1) := by decide +kernel
theorem dX11_row_8 : decode cX11_row 8 = .ok (.invokevirtual 226, 3) := by decide +kernel
theorem dX11_row_11 : decode cX11_row 11 = .ok (.astore 4, 2) := by decide +kernel
theorem dX11_row_13 : decode cX11_row 13 = .ok (.aload 4, 2) := by decide +kernel
theorem dX11_row_15 : decode cX11_row 15 = .ok (.ifnonnull 5, 3) := by decide +kernel
theorem dX11_row_18 : decode cX11_row 18 = .ok (.iconst (-1), 1) := by decide +kernel
theorem dX11_row_19 : decode cX11_row 19 = .ok (.ireturn, 1) := by decide +kernel
theorem dX11_row_20 : decode cX11_row 20 = .ok (.iload_n 3, 1) := by decide +kernel
theorem dX11_row_21 : decode cX11_row 21 = .ok (.bipush 30, 2) := by decide +kernel
theorem dX11_row_23 : decode cX11_row 23 = .ok (.if_icmp .le 6, 3) := by decide +kernel
theorem dX11_row_26 : decode cX11_row 26 = .ok (.bipush (-2), 2) := by decide +kernel
theorem dX11_row_28 : decode cX11_row 28 = .ok (.ireturn, 1) := by decide +kernel
theorem dX11_row_29 : decode cX11_row 29 = .ok (.aload 4, 2) := by decide +kernel
theorem dX11_row_31 : decode cX11_row 31 = .ok (.getfield 234, 3) := by decide +kernel
theorem dX11_row_34 : decode cX11_row 34 = .ok (.ifCond .ne 6, 3) := by decide +kernel
theorem dX11_row_37 : decode cX11_row 37 = .ok (.bipush (-3), 2) := by decide +kernel
theorem dX11_row_39 : decode cX11_row 39 = .ok (.ireturn, 1) := by decide +kernel
theorem dX11_row_40 : decode cX11_row 40 = .ok (.iload_n 3, 1) := by decide +kernel
theorem dX11_row_41 : decode cX11_row 41 = .ok (.ifCond .ge 9, 3) := by decide +kernel
theorem dX11_row_44 : decode cX11_row 44 = .ok (.aload_n 0, 1) := by decide +kernel
theorem dX11_row_45 : decode cX11_row 45 = .ok (.iconst 5, 1) := by decide +kernel
theorem dX11_row_46 : decode cX11_row 46 = .ok (.invokevirtual 195, 3) := by decide +kernel
theorem dX11_row_49 : decode cX11_row 49 = .ok (.ireturn, 1) := by decide +kernel
theorem dX11_row_50 : decode cX11_row 50 = .ok (.aload 4, 2) := by decide +kernel
theorem dX11_row_52 : decode cX11_row 52 = .ok (.iload_n 3, 1) := by decide +kernel
theorem dX11_row_53 : decode cX11_row 53 = .ok (.invokevirtual 236, 3) := by decide +kernel
theorem dX11_row_56 : decode cX11_row 56 = .ok (.iconst 1, 1) := by decide +kernel
theorem dX11_row_57 : decode cX11_row 57 = .ok (.ireturn, 1) := by decide +kernel
def fn_X11_row (h : mz_H) (a0 : (Option Nat)) (x1 : Int32) (x2 : Int32) (x3 : Int32) : mz_Res Int32 :=
  mz_op (mz_pF h a0 10 8 (Value.int 0)) fun h =>
  mz_chk (mz_is h a0 10) <| mz_call (fn_X11_slotOf h a0 x1 x2) fun v1 h =>
  if v1 = none then
    mz_ret (-1) h
  else
    if x3 ≤ 30 then
      mz_op (mz_fI h v1 5 2) fun v2 =>
      if v2 = 0 then
        mz_ret (-3) h
      else
        if 0 ≤ x3 then
          mz_chk (mz_is h v1 5) <| mz_call (fn_X6_fillAnew h v1 x3) fun _ h =>
          mz_ret 1 h
        else
          mz_chk (mz_is h a0 10) <| mz_call (fn_X11_comeTo h a0 5) fun v3 h =>
          mz_ret v3 h
    else
      mz_ret (-2) h
set_option maxHeartbeats 4000000 in
set_option maxRecDepth 100000 in
theorem pf_X11_row_b0 (r : Int32) (Y : mz_Y p g RX11 cX11_row 5 (some .int) "row" (mz_AF h0) s m args meth c) (h : mz_H) (a0 : (Option Nat)) (x1 : Int32) (x2 : Int32) (x3 : Int32) (dc ds : Nat) (hr : fn_X11_row h a0 x1 x2 x3 = some (r, hf, dc, ds)) : mz_Go l g p e s m args below meth c 3 67 DC DS h0 (some (Value.int r)) hf 5 0 [(0, false, va_rf a0), (1, false, .int x1), (2, false, .int x2), (3, false, .int x3)] [] h dc ds := by
  unfold fn_X11_row at hr
  intro H locs cells slots ls hH hS hl hc hs
  have X := Y.1
  refine mz_aload_n X dX11_row_0 rfl (mz_at hl 0 rfl) ?_
  refine lv_iconst (v := 0) X.1 X.2.1 dX11_row_1 (by decide) ?_
  refine mz_put X hH hS fp_RX11_185 dX11_row_2 rfl rfl hr (fun h H locs hr hH hS => ?_)
  refine mz_aload_n X dX11_row_5 rfl (mz_at hl 0 rfl) ?_
  refine lv_iload_n X.1 X.2.1 dX11_row_6 rfl (mz_at hl 1 rfl) ?_
  refine lv_iload_n X.1 X.2.1 dX11_row_7 rfl (mz_at hl 2 rfl) ?_
  refine mz_kV va_rf X hH hS hl.1.1 [.int x1, .int x2] [] hr (ct_X11_slotOf l g h a0 x1 x2) mb_RX11_226 rfl im_X11_slotOf rfl (Nat.le_of_ble_eq_true rfl) ⟨Nat.le_of_ble_eq_true rfl, Nat.le_of_ble_eq_true rfl⟩ hc hs dX11_row_8 rfl (fun v1 h H locs cells slots dc ds hr hH hS hc hs => ?_)
  refine mz_astore X [(4, false, va_rf v1), (0, false, va_rf a0), (1, false, .int x1), (2, false, .int x2), (3, false, .int x3)] dX11_row_11 hl (by decide) rfl (fun ls hl => ?_)
  refine mz_aload X dX11_row_13 (mz_at hl 0 rfl) ?_
  refine mz_ifnonnull X 20 dX11_row_15 (by decide) hr (fun hr => ?_) (fun hr => ?_)
  · refine lv_iload_n X.1 X.2.1 dX11_row_20 rfl (mz_at hl 4 rfl) ?_
    refine lv_bipush (v := 30) X.1 X.2.1 dX11_row_21 (by decide) ?_
    refine mz_icmp_le X 29 dX11_row_23 (by decide) hr (fun hr => ?_) (fun hr => ?_)
    · refine mz_aload X dX11_row_29 (mz_at hl 0 rfl) ?_
      refine mz_getI X hH fl_RX11_234 dX11_row_31 hr (fun v2 hr => ?_)
      refine mz_if_ne X 40 dX11_row_34 (by decide) hr (fun hr => ?_) (fun hr => ?_)
      · refine lv_iload_n X.1 X.2.1 dX11_row_40 rfl (mz_at hl 4 rfl) ?_
        refine mz_if_ge X 50 dX11_row_41 (by decide) hr (fun hr => ?_) (fun hr => ?_)
        · refine mz_aload X dX11_row_50 (mz_at hl 0 rfl) ?_
          refine lv_iload_n X.1 X.2.1 dX11_row_52 rfl (mz_at hl 4 rfl) ?_
          refine mz_kV0 X hH hS hl.1.1 [.int x3] [] hr (ct_X6_fillAnew l g h v1 x3) mb_RX11_236 rfl im_X6_fillAnew rfl (Nat.le_of_ble_eq_true rfl) ⟨Nat.le_of_ble_eq_true rfl, Nat.le_of_ble_eq_true rfl⟩ hc hs dX11_row_53 rfl (fun _ h H locs cells slots dc ds hr hH hS hc hs => ?_)
          refine lv_iconst (v := 1) X.1 X.2.1 dX11_row_56 (by decide) ?_
          exact mz_iret Y dX11_row_57 hH hS hc hs hr
        · refine mz_aload_n X dX11_row_44 rfl (mz_at hl 1 rfl) ?_
          refine lv_iconst (v := 5) X.1 X.2.1 dX11_row_45 (by decide) ?_
          refine mz_kV Value.int X hH hS hl.1.1 [.int 5] [] hr (ct_X11_comeTo l g h a0 5) mb_RX11_195 rfl im_X11_comeTo rfl (Nat.le_of_ble_eq_true rfl) ⟨Nat.le_of_ble_eq_true rfl, Nat.le_of_ble_eq_true rfl⟩ hc hs dX11_row_46 rfl (fun v3 h H locs cells slots dc ds hr hH hS hc hs => ?_)
          exact mz_iret Y dX11_row_49 hH hS hc hs hr
      · refine lv_bipush (v := (-3)) X.1 X.2.1 dX11_row_37 (by decide) ?_
        exact mz_iret Y dX11_row_39 hH hS hc hs hr
    · refine lv_bipush (v := (-2)) X.1 X.2.1 dX11_row_26 (by decide) ?_
      exact mz_iret Y dX11_row_28 hH hS hc hs hr
  · refine lv_iconst (v := (-1)) X.1 X.2.1 dX11_row_18 (by decide) ?_
    exact mz_iret Y dX11_row_19 hH hS hc hs hr
set_option maxRecDepth 100000 in
theorem ct_X11_row (l : Launch) (g : mz_G) (h : mz_H) (a0 : (Option Nat)) (x1 : Int32) (x2 : Int32) (x3 : Int32) (r : Int32) (hf : mz_H) (k n : Nat) (hr : fn_X11_row h a0 x1 x2 x3 = some (r, hf, k, n)) : mz_C l g yX11_row cX11_row 5 (some .int) 3 67 [va_rf a0, .int x1, .int x2, .int x3] h (some (Value.int r)) hf k n := by
  refine mz_met (as := [(false, va_rf a0), (false, .int x1), (false, .int x2), (false, .int x3)]) (plainFor_of_name (by decide)) (mz_c1 (mz_cat_rf _) (mz_c1 rfl (mz_c1 rfl (mz_c1 rfl mz_c0)))) (Nat.le_of_ble_eq_true rfl) ?_
  intro p e s m args below meth c Y
  exact pf_X11_row_b0 r Y h a0 x1 x2 x3 _ _ hr
theorem dX11_inner_0 : decode cX11_inner 0 = .ok (.aload_n 0, 1) := by decide +kernel
theorem dX11_inner_1 : decode cX11_inner 1 = .ok (.iconst 0, 1) := by decide +kernel
theorem dX11_inner_2 : decode cX11_inner 2 = .ok (.putfield 185, 3) := by decide +kernel
theorem dX11_inner_5 : decode cX11_inner 5 = .ok (.aload_n 0, 1) := by decide +kernel
theorem dX11_inner_6 : decode cX11_inner 6 = .ok (.iload_n 1, 1) := by decide +kernel
theorem dX11_inner_7 : decode cX11_inner 7 = .ok (.iload_n 2, 1) := by decide +kernel
theorem dX11_inner_8 : decode cX11_inner 8 = .ok (.invokevirtual 226, 3) := by decide +kernel
theorem dX11_inner_11 : decode cX11_inner 11 = .ok (.astore 5, 2) := by decide +kernel
theorem dX11_inner_13 : decode cX11_inner 13 = .ok (.aload 5, 2) := by decide +kernel
theorem dX11_inner_15 : decode cX11_inner 15 = .ok (.ifnonnull 5, 3) := by decide +kernel
theorem dX11_inner_18 : decode cX11_inner 18 = .ok (.iconst (-1), 1) := by decide +kernel
theorem dX11_inner_19 : decode cX11_inner 19 = .ok (.ireturn, 1) := by decide +kernel
theorem dX11_inner_20 : decode cX11_inner 20 = .ok (.iload 4, 2) := by decide +kernel
theorem dX11_inner_22 : decode cX11_inner 22 = .ok (.bipush 30, 2) := by decide +kernel
theorem dX11_inner_24 : decode cX11_inner 24 = .ok (.if_icmp .le 6, 3) := by decide +kernel
theorem dX11_inner_27 : decode cX11_inner 27 = .ok (.bipush (-2), 2) := by decide +kernel
theorem dX11_inner_29 : decode cX11_inner 29 = .ok (.ireturn, 1) := by decide +kernel
theorem dX11_inner_30 : decode cX11_inner 30 = .ok (.aload 5, 2) := by decide +kernel
theorem dX11_inner_32 : decode cX11_inner 32 = .ok (.getfield 234, 3) := by decide +kernel
theorem dX11_inner_35 : decode cX11_inner 35 = .ok (.iconst 2, 1) := by decide +kernel
theorem dX11_inner_36 : decode cX11_inner 36 = .ok (.if_icmp .eq 6, 3) := by decide +kernel
theorem dX11_inner_39 : decode cX11_inner 39 = .ok (.bipush (-3), 2) := by decide +kernel
theorem dX11_inner_41 : decode cX11_inner 41 = .ok (.ireturn, 1) := by decide +kernel
theorem dX11_inner_42 : decode cX11_inner 42 = .ok (.iload 4, 2) := by decide +kernel
theorem dX11_inner_44 : decode cX11_inner 44 = .ok (.ifCond .ge 9, 3) := by decide +kernel
theorem dX11_inner_47 : decode cX11_inner 47 = .ok (.aload_n 0, 1) := by decide +kernel
theorem dX11_inner_48 : decode cX11_inner 48 = .ok (.iconst 5, 1) := by decide +kernel
theorem dX11_inner_49 : decode cX11_inner 49 = .ok (.invokevirtual 195, 3) := by decide +kernel
theorem dX11_inner_52 : decode cX11_inner 52 = .ok (.ireturn, 1) := by decide +kernel
theorem dX11_inner_53 : decode cX11_inner 53 = .ok (.aload 5, 2) := by decide +kernel
theorem dX11_inner_55 : decode cX11_inner 55 = .ok (.getfield 239, 3) := by decide +kernel
theorem dX11_inner_58 : decode cX11_inner 58 = .ok (.ifnonnull 9, 3) := by decide +kernel
theorem dX11_inner_61 : decode cX11_inner 61 = .ok (.aload_n 0, 1) := by decide +kernel
theorem dX11_inner_62 : decode cX11_inner 62 = .ok (.iconst 1, 1) := by decide +kernel
theorem dX11_inner_63 : decode cX11_inner 63 = .ok (.invokevirtual 195, 3) := by decide +kernel
theorem dX11_inner_66 : decode cX11_inner 66 = .ok (.ireturn, 1) := by decide +kernel
theorem dX11_inner_67 : decode cX11_inner 67 = .ok (.iload_n 3, 1) := by decide +kernel
theorem dX11_inner_68 : decode cX11_inner 68 = .ok (.ifCond .lt 13, 3) := by decide +kernel
theorem dX11_inner_71 : decode cX11_inner 71 = .ok (.iload_n 3, 1) := by decide +kernel
theorem dX11_inner_72 : decode cX11_inner 72 = .ok (.aload 5, 2) := by decide +kernel
theorem dX11_inner_74 : decode cX11_inner 74 = .ok (.getfield 239, 3) := by decide +kernel
theorem dX11_inner_77 : decode cX11_inner 77 = .ok (.arraylength, 1) := by decide +kernel
theorem dX11_inner_78 : decode cX11_inner 78 = .ok (.if_icmp .lt 9, 3) := by decide +kernel
theorem dX11_inner_81 : decode cX11_inner 81 = .ok (.aload_n 0, 1) := by decide +kernel
theorem dX11_inner_82 : decode cX11_inner 82 = .ok (.iconst 3, 1) := by decide +kernel
theorem dX11_inner_83 : decode cX11_inner 83 = .ok (.invokevirtual 195, 3) := by decide +kernel
theorem dX11_inner_86 : decode cX11_inner 86 = .ok (.ireturn, 1) := by decide +kernel
theorem dX11_inner_87 : decode cX11_inner 87 = .ok (.aload 5, 2) := by decide +kernel
theorem dX11_inner_89 : decode cX11_inner 89 = .ok (.getfield 239, 3) := by decide +kernel
theorem dX11_inner_92 : decode cX11_inner 92 = .ok (.iload_n 3, 1) := by decide +kernel
theorem dX11_inner_93 : decode cX11_inner 93 = .ok (.new 243, 3) := by decide +kernel
theorem dX11_inner_96 : decode cX11_inner 96 = .ok (.dup, 1) := by decide +kernel
theorem dX11_inner_97 : decode cX11_inner 97 = .ok (.iload 4, 2) := by decide +kernel
theorem dX11_inner_99 : decode cX11_inner 99 = .ok (.aload 5, 2) := by decide +kernel
theorem dX11_inner_101 : decode cX11_inner 101 = .ok (.getfield 233, 3) := by decide +kernel
theorem dX11_inner_104 : decode cX11_inner 104 = .ok (.invokespecial 245, 3) := by decide +kernel
theorem dX11_inner_107 : decode cX11_inner 107 = .ok (.aastore, 1) := by decide +kernel
theorem dX11_inner_108 : decode cX11_inner 108 = .ok (.iconst 1, 1) := by decide +kernel
theorem dX11_inner_109 : decode cX11_inner 109 = .ok (.ireturn, 1) := by decide +kernel
def fn_X11_inner_b81 (h : mz_H) (a0 : (Option Nat)) : mz_Res Int32 :=
  mz_chk (mz_is h a0 10) <| mz_call (fn_X11_comeTo h a0 3) fun v1 h =>
  mz_ret v1 h
set_option maxHeartbeats 4000000 in
set_option maxRecDepth 100000 in
theorem pf_X11_inner_b81 (r : Int32) (Y : mz_Y p g RX11 cX11_inner 6 (some .int) "inner" (mz_AF h0) s m args meth c) (h : mz_H) (a0 : (Option Nat)) (dc ds : Nat) (hr : fn_X11_inner_b81 h a0 = some (r, hf, dc, ds)) : mz_Go l g p e s m args below meth c 2 46 DC DS h0 (some (Value.int r)) hf 6 81 [(0, false, va_rf a0)] [] h dc ds := by
  unfold fn_X11_inner_b81 at hr
  intro H locs cells slots ls hH hS hl hc hs
  have X := Y.1
  refine mz_aload_n X dX11_inner_81 rfl (mz_at hl 0 rfl) ?_
  refine lv_iconst (v := 3) X.1 X.2.1 dX11_inner_82 (by decide) ?_
  refine mz_kV Value.int X hH hS hl.1.1 [.int 3] [] hr (ct_X11_comeTo l g h a0 3) mb_RX11_195 rfl im_X11_comeTo rfl (Nat.le_of_ble_eq_true rfl) ⟨Nat.le_of_ble_eq_true rfl, Nat.le_of_ble_eq_true rfl⟩ hc hs dX11_inner_83 rfl (fun v1 h H locs cells slots dc ds hr hH hS hc hs => ?_)
  exact mz_iret Y dX11_inner_86 hH hS hc hs hr
def fn_X11_inner (h : mz_H) (a0 : (Option Nat)) (x1 : Int32) (x2 : Int32) (x3 : Int32) (x4 : Int32) : mz_Res Int32 :=
  mz_op (mz_pF h a0 10 8 (Value.int 0)) fun h =>
  mz_chk (mz_is h a0 10) <| mz_call (fn_X11_slotOf h a0 x1 x2) fun v1 h =>
  if v1 = none then
    mz_ret (-1) h
  else
    if x4 ≤ 30 then
      mz_op (mz_fI h v1 5 2) fun v2 =>
      if v2 = 2 then
        if 0 ≤ x4 then
          mz_op (mz_fR h v1 5 5) fun v3 =>
          if v3 = none then
            mz_chk (mz_is h a0 10) <| mz_call (fn_X11_comeTo h a0 1) fun v9 h =>
            mz_ret v9 h
          else
            if x3 < 0 then
              fn_X11_inner_b81 h a0
            else
              mz_op (mz_fR h v1 5 5) fun v4 =>
              mz_op (mz_len h v4 14) fun v5 =>
              if x3 < v5 then
                mz_op (mz_fR h v1 5 5) fun v6 =>
                mz_oN h 4 1 [.null] fun v7 h =>
                mz_op (mz_fI h v1 5 1) fun v8 =>
                mz_chk (mz_is h v7 4) <| mz_call (fn_X5_init h v7 x4 v8) fun _ h =>
                mz_op (mz_sR h v6 14 x3 v7) fun h =>
                mz_ret 1 h
              else
                fn_X11_inner_b81 h a0
        else
          mz_chk (mz_is h a0 10) <| mz_call (fn_X11_comeTo h a0 5) fun v10 h =>
          mz_ret v10 h
      else
        mz_ret (-3) h
    else
      mz_ret (-2) h
set_option maxHeartbeats 4000000 in
set_option maxRecDepth 100000 in
theorem pf_X11_inner_b0 (r : Int32) (Y : mz_Y p g RX11 cX11_inner 6 (some .int) "inner" (mz_AF h0) s m args meth c) (h : mz_H) (a0 : (Option Nat)) (x1 : Int32) (x2 : Int32) (x3 : Int32) (x4 : Int32) (dc ds : Nat) (hr : fn_X11_inner h a0 x1 x2 x3 x4 = some (r, hf, dc, ds)) : mz_Go l g p e s m args below meth c 2 46 DC DS h0 (some (Value.int r)) hf 6 0 [(0, false, va_rf a0), (1, false, .int x1), (2, false, .int x2), (3, false, .int x3), (4, false, .int x4)] [] h dc ds := by
  unfold fn_X11_inner at hr
  intro H locs cells slots ls hH hS hl hc hs
  have X := Y.1
  refine mz_aload_n X dX11_inner_0 rfl (mz_at hl 0 rfl) ?_
  refine lv_iconst (v := 0) X.1 X.2.1 dX11_inner_1 (by decide) ?_
  refine mz_put X hH hS fp_RX11_185 dX11_inner_2 rfl rfl hr (fun h H locs hr hH hS => ?_)
  refine mz_aload_n X dX11_inner_5 rfl (mz_at hl 0 rfl) ?_
  refine lv_iload_n X.1 X.2.1 dX11_inner_6 rfl (mz_at hl 1 rfl) ?_
  refine lv_iload_n X.1 X.2.1 dX11_inner_7 rfl (mz_at hl 2 rfl) ?_
  refine mz_kV va_rf X hH hS hl.1.1 [.int x1, .int x2] [] hr (ct_X11_slotOf l g h a0 x1 x2) mb_RX11_226 rfl im_X11_slotOf rfl (Nat.le_of_ble_eq_true rfl) ⟨Nat.le_of_ble_eq_true rfl, Nat.le_of_ble_eq_true rfl⟩ hc hs dX11_inner_8 rfl (fun v1 h H locs cells slots dc ds hr hH hS hc hs => ?_)
  refine mz_astore X [(5, false, va_rf v1), (0, false, va_rf a0), (1, false, .int x1), (2, false, .int x2), (3, false, .int x3), (4, false, .int x4)] dX11_inner_11 hl (by decide) rfl (fun ls hl => ?_)
  refine mz_aload X dX11_inner_13 (mz_at hl 0 rfl) ?_
  refine mz_ifnonnull X 20 dX11_inner_15 (by decide) hr (fun hr => ?_) (fun hr => ?_)
  · refine lv_iload X.1 X.2.1 dX11_inner_20 (mz_at hl 5 rfl) ?_
    refine lv_bipush (v := 30) X.1 X.2.1 dX11_inner_22 (by decide) ?_
    refine mz_icmp_le X 30 dX11_inner_24 (by decide) hr (fun hr => ?_) (fun hr => ?_)
    · refine mz_aload X dX11_inner_30 (mz_at hl 0 rfl) ?_
      refine mz_getI X hH fl_RX11_234 dX11_inner_32 hr (fun v2 hr => ?_)
      refine lv_iconst (v := 2) X.1 X.2.1 dX11_inner_35 (by decide) ?_
      refine mz_icmp_eq X 42 dX11_inner_36 (by decide) hr (fun hr => ?_) (fun hr => ?_)
      · refine lv_iload X.1 X.2.1 dX11_inner_42 (mz_at hl 5 rfl) ?_
        refine mz_if_ge X 53 dX11_inner_44 (by decide) hr (fun hr => ?_) (fun hr => ?_)
        · refine mz_aload X dX11_inner_53 (mz_at hl 0 rfl) ?_
          refine mz_getR X hH fl_RX11_239 dX11_inner_55 hr (fun v3 hr => ?_)
          refine mz_ifnonnull X 67 dX11_inner_58 (by decide) hr (fun hr => ?_) (fun hr => ?_)
          · refine lv_iload_n X.1 X.2.1 dX11_inner_67 rfl (mz_at hl 4 rfl) ?_
            refine mz_if_lt X 81 dX11_inner_68 (by decide) hr (fun hr => ?_) (fun hr => ?_)
            · exact pf_X11_inner_b81 r Y h a0 _ _ hr H locs cells slots ls hH hS (mz_sub hl [1] rfl) hc hs
            · refine lv_iload_n X.1 X.2.1 dX11_inner_71 rfl (mz_at hl 4 rfl) ?_
              refine mz_aload X dX11_inner_72 (mz_at hl 0 rfl) ?_
              refine mz_getR X hH fl_RX11_239 dX11_inner_74 hr (fun v4 hr => ?_)
              refine mz_alen (t := 14) X hH (by decide) dX11_inner_77 hr (fun v5 hr => ?_)
              refine mz_icmp_lt X 87 dX11_inner_78 (by decide) hr (fun hr => ?_) (fun hr => ?_)
              · refine mz_aload X dX11_inner_87 (mz_at hl 0 rfl) ?_
                refine mz_getR X hH fl_RX11_239 dX11_inner_89 hr (fun v6 hr => ?_)
                refine lv_iload_n X.1 X.2.1 dX11_inner_92 rfl (mz_at hl 4 rfl) ?_
                refine mz_kN X hH hS tyX5 rfl cl_4 tyX5_ok ⟨mz_tb 615 (by decide +kernel) rfl, mz_tb 512 (by decide +kernel) rfl, mz_tb 50 (by decide +kernel) rfl⟩ nw_4 dX11_inner_93 hr hc hs (fun v7 h H cells slots dc ds hr hH hS hc hs => ?_)
                refine mz_dupR X dX11_inner_96 ?_
                refine lv_iload X.1 X.2.1 dX11_inner_97 (mz_at hl 5 rfl) ?_
                refine mz_aload X dX11_inner_99 (mz_at hl 0 rfl) ?_
                refine mz_getI X hH fl_RX11_233 dX11_inner_101 hr (fun v8 hr => ?_)
                refine mz_kI X hH hS hl.1.1 [.int x4, .int v8] [va_rf v7, .int x3, va_rf v6] hr (ct_X5_init l g h v7 x4 v8) mb_RX11_245 im_X5_init rfl rfl (Nat.le_of_ble_eq_true rfl) ⟨Nat.le_of_ble_eq_true rfl, Nat.le_of_ble_eq_true rfl⟩ hc hs dX11_inner_104 rfl (fun _ h H locs cells slots dc ds hr hH hS hc hs => ?_)
                refine mz_aast (t := 14) X hH hS (by decide) rfl rfl dX11_inner_107 hr (fun h H locs hr hH hS => ?_)
                refine lv_iconst (v := 1) X.1 X.2.1 dX11_inner_108 (by decide) ?_
                exact mz_iret Y dX11_inner_109 hH hS hc hs hr
              · exact pf_X11_inner_b81 r Y h a0 _ _ hr H locs cells slots ls hH hS (mz_sub hl [1] rfl) hc hs
          · refine mz_aload_n X dX11_inner_61 rfl (mz_at hl 1 rfl) ?_
            refine lv_iconst (v := 1) X.1 X.2.1 dX11_inner_62 (by decide) ?_
            refine mz_kV Value.int X hH hS hl.1.1 [.int 1] [] hr (ct_X11_comeTo l g h a0 1) mb_RX11_195 rfl im_X11_comeTo rfl (Nat.le_of_ble_eq_true rfl) ⟨Nat.le_of_ble_eq_true rfl, Nat.le_of_ble_eq_true rfl⟩ hc hs dX11_inner_63 rfl (fun v9 h H locs cells slots dc ds hr hH hS hc hs => ?_)
            exact mz_iret Y dX11_inner_66 hH hS hc hs hr
        · refine mz_aload_n X dX11_inner_47 rfl (mz_at hl 1 rfl) ?_
          refine lv_iconst (v := 5) X.1 X.2.1 dX11_inner_48 (by decide) ?_
          refine mz_kV Value.int X hH hS hl.1.1 [.int 5] [] hr (ct_X11_comeTo l g h a0 5) mb_RX11_195 rfl im_X11_comeTo rfl (Nat.le_of_ble_eq_true rfl) ⟨Nat.le_of_ble_eq_true rfl, Nat.le_of_ble_eq_true rfl⟩ hc hs dX11_inner_49 rfl (fun v10 h H locs cells slots dc ds hr hH hS hc hs => ?_)
          exact mz_iret Y dX11_inner_52 hH hS hc hs hr
      · refine lv_bipush (v := (-3)) X.1 X.2.1 dX11_inner_39 (by decide) ?_
        exact mz_iret Y dX11_inner_41 hH hS hc hs hr
    · refine lv_bipush (v := (-2)) X.1 X.2.1 dX11_inner_27 (by decide) ?_
      exact mz_iret Y dX11_inner_29 hH hS hc hs hr
  · refine lv_iconst (v := (-1)) X.1 X.2.1 dX11_inner_18 (by decide) ?_
    exact mz_iret Y dX11_inner_19 hH hS hc hs hr
set_option maxRecDepth 100000 in
theorem ct_X11_inner (l : Launch) (g : mz_G) (h : mz_H) (a0 : (Option Nat)) (x1 : Int32) (x2 : Int32) (x3 : Int32) (x4 : Int32) (r : Int32) (hf : mz_H) (k n : Nat) (hr : fn_X11_inner h a0 x1 x2 x3 x4 = some (r, hf, k, n)) : mz_C l g yX11_inner cX11_inner 6 (some .int) 2 46 [va_rf a0, .int x1, .int x2, .int x3, .int x4] h (some (Value.int r)) hf k n := by
  refine mz_met (as := [(false, va_rf a0), (false, .int x1), (false, .int x2), (false, .int x3), (false, .int x4)]) (plainFor_of_name (by decide)) (mz_c1 (mz_cat_rf _) (mz_c1 rfl (mz_c1 rfl (mz_c1 rfl (mz_c1 rfl mz_c0))))) (Nat.le_of_ble_eq_true rfl) ?_
  intro p e s m args below meth c Y
  exact pf_X11_inner_b0 r Y h a0 x1 x2 x3 x4 _ _ hr
theorem dX11_drop_0 : decode cX11_drop 0 = .ok (.aload_n 0, 1) := by decide +kernel
theorem dX11_drop_1 : decode cX11_drop 1 = .ok (.iload_n 1, 1) := by decide +kernel
theorem dX11_drop_2 : decode cX11_drop 2 = .ok (.iload_n 2, 1) := by decide +kernel
theorem dX11_drop_3 : decode cX11_drop 3 = .ok (.invokevirtual 226, 3) := by decide +kernel
theorem dX11_drop_6 : decode cX11_drop 6 = .ok (.astore_n 3, 1) := by decide +kernel
theorem dX11_drop_7 : decode cX11_drop 7 = .ok (.aload_n 3, 1) := by decide +kernel
theorem dX11_drop_8 : decode cX11_drop 8 = .ok (.ifnonnull 5, 3) := by decide +kernel
theorem dX11_drop_11 : decode cX11_drop 11 = .ok (.iconst (-1), 1) := by decide +kernel
theorem dX11_drop_12 : decode cX11_drop 12 = .ok (.ireturn, 1) := by decide +kernel
theorem dX11_drop_13 : decode cX11_drop 13 = .ok (.aload_n 3, 1) := by decide +kernel
theorem dX11_drop_14 : decode cX11_drop 14 = .ok (.getfield 234, 3) := by decide +kernel
theorem dX11_drop_17 : decode cX11_drop 17 = .ok (.ifCond .ne 6, 3) := by decide +kernel
theorem dX11_drop_20 : decode cX11_drop 20 = .ok (.bipush (-3), 2) := by decide +kernel
theorem dX11_drop_22 : decode cX11_drop 22 = .ok (.ireturn, 1) := by decide +kernel
theorem dX11_drop_23 : decode cX11_drop 23 = .ok (.aload_n 3, 1) := by decide +kernel
theorem dX11_drop_24 : decode cX11_drop 24 = .ok (.invokevirtual 248, 3) := by decide +kernel
theorem dX11_drop_27 : decode cX11_drop 27 = .ok (.ifCond .eq 7, 3) := by decide +kernel
theorem dX11_drop_30 : decode cX11_drop 30 = .ok (.iconst 0, 1) := by decide +kernel
theorem dX11_drop_31 : decode cX11_drop 31 = .ok (.goto 4, 3) := by decide +kernel
theorem dX11_drop_34 : decode cX11_drop 34 = .ok (.iconst 1, 1) := by decide +kernel
theorem dX11_drop_35 : decode cX11_drop 35 = .ok (.istore 4, 2) := by decide +kernel
theorem dX11_drop_37 : decode cX11_drop 37 = .ok (.aload_n 3, 1) := by decide +kernel
theorem dX11_drop_38 : decode cX11_drop 38 = .ok (.invokevirtual 251, 3) := by decide +kernel
theorem dX11_drop_41 : decode cX11_drop 41 = .ok (.iload 4, 2) := by decide +kernel
theorem dX11_drop_43 : decode cX11_drop 43 = .ok (.ireturn, 1) := by decide +kernel
def fn_X11_drop_b35 (h : mz_H) (a3 : (Option Nat)) (s0 : Int32) : mz_Res Int32 :=
  mz_chk (mz_is h a3 5) <| mz_call (fn_X6_empty h a3) fun _ h =>
  mz_ret s0 h
set_option maxHeartbeats 4000000 in
set_option maxRecDepth 100000 in
theorem pf_X11_drop_b35 (r : Int32) (Y : mz_Y p g RX11 cX11_drop 5 (some .int) "drop" (mz_AF h0) s m args meth c) (h : mz_H) (a3 : (Option Nat)) (s0 : Int32) (dc ds : Nat) (hr : fn_X11_drop_b35 h a3 s0 = some (r, hf, dc, ds)) : mz_Go l g p e s m args below meth c 2 44 DC DS h0 (some (Value.int r)) hf 5 35 [(3, false, va_rf a3)] [.int s0] h dc ds := by
  unfold fn_X11_drop_b35 at hr
  intro H locs cells slots ls hH hS hl hc hs
  have X := Y.1
  refine mz_istore X [(4, false, .int s0), (3, false, va_rf a3)] dX11_drop_35 hl (by decide) rfl (fun ls hl => ?_)
  refine mz_aload_n X dX11_drop_37 rfl (mz_at hl 1 rfl) ?_
  refine mz_kV0 X hH hS hl.1.1 [] [] hr (ct_X6_empty l g h a3) mb_RX11_251 rfl im_X6_empty rfl (Nat.le_of_ble_eq_true rfl) ⟨Nat.le_of_ble_eq_true rfl, Nat.le_of_ble_eq_true rfl⟩ hc hs dX11_drop_38 rfl (fun _ h H locs cells slots dc ds hr hH hS hc hs => ?_)
  refine lv_iload X.1 X.2.1 dX11_drop_41 (mz_at hl 0 rfl) ?_
  exact mz_iret Y dX11_drop_43 hH hS hc hs hr
def fn_X11_drop (h : mz_H) (a0 : (Option Nat)) (x1 : Int32) (x2 : Int32) : mz_Res Int32 :=
  mz_chk (mz_is h a0 10) <| mz_call (fn_X11_slotOf h a0 x1 x2) fun v1 h =>
  if v1 = none then
    mz_ret (-1) h
  else
    mz_op (mz_fI h v1 5 2) fun v2 =>
    if v2 = 0 then
      mz_ret (-3) h
    else
      mz_chk (mz_is h v1 5) <| mz_call (fn_X6_hasNothing h v1) fun v3 h =>
      if v3 = 0 then
        fn_X11_drop_b35 h v1 1
      else
        fn_X11_drop_b35 h v1 0
set_option maxHeartbeats 4000000 in
set_option maxRecDepth 100000 in
theorem pf_X11_drop_b0 (r : Int32) (Y : mz_Y p g RX11 cX11_drop 5 (some .int) "drop" (mz_AF h0) s m args meth c) (h : mz_H) (a0 : (Option Nat)) (x1 : Int32) (x2 : Int32) (dc ds : Nat) (hr : fn_X11_drop h a0 x1 x2 = some (r, hf, dc, ds)) : mz_Go l g p e s m args below meth c 2 44 DC DS h0 (some (Value.int r)) hf 5 0 [(0, false, va_rf a0), (1, false, .int x1), (2, false, .int x2)] [] h dc ds := by
  unfold fn_X11_drop at hr
  intro H locs cells slots ls hH hS hl hc hs
  have X := Y.1
  refine mz_aload_n X dX11_drop_0 rfl (mz_at hl 0 rfl) ?_
  refine lv_iload_n X.1 X.2.1 dX11_drop_1 rfl (mz_at hl 1 rfl) ?_
  refine lv_iload_n X.1 X.2.1 dX11_drop_2 rfl (mz_at hl 2 rfl) ?_
  refine mz_kV va_rf X hH hS hl.1.1 [.int x1, .int x2] [] hr (ct_X11_slotOf l g h a0 x1 x2) mb_RX11_226 rfl im_X11_slotOf rfl (Nat.le_of_ble_eq_true rfl) ⟨Nat.le_of_ble_eq_true rfl, Nat.le_of_ble_eq_true rfl⟩ hc hs dX11_drop_3 rfl (fun v1 h H locs cells slots dc ds hr hH hS hc hs => ?_)
  refine mz_astore_n X [(3, false, va_rf v1), (0, false, va_rf a0), (1, false, .int x1), (2, false, .int x2)] dX11_drop_6 rfl hl (by decide) rfl (fun ls hl => ?_)
  refine mz_aload_n X dX11_drop_7 rfl (mz_at hl 0 rfl) ?_
  refine mz_ifnonnull X 13 dX11_drop_8 (by decide) hr (fun hr => ?_) (fun hr => ?_)
  · refine mz_aload_n X dX11_drop_13 rfl (mz_at hl 0 rfl) ?_
    refine mz_getI X hH fl_RX11_234 dX11_drop_14 hr (fun v2 hr => ?_)
    refine mz_if_ne X 23 dX11_drop_17 (by decide) hr (fun hr => ?_) (fun hr => ?_)
    · refine mz_aload_n X dX11_drop_23 rfl (mz_at hl 0 rfl) ?_
      refine mz_kV Value.int X hH hS hl.1.1 [] [] hr (ct_X6_hasNothing l g h v1) mb_RX11_248 rfl im_X6_hasNothing rfl (Nat.le_of_ble_eq_true rfl) ⟨Nat.le_of_ble_eq_true rfl, Nat.le_of_ble_eq_true rfl⟩ hc hs dX11_drop_24 rfl (fun v3 h H locs cells slots dc ds hr hH hS hc hs => ?_)
      refine mz_if_eq X 34 dX11_drop_27 (by decide) hr (fun hr => ?_) (fun hr => ?_)
      · refine lv_iconst (v := 1) X.1 X.2.1 dX11_drop_34 (by decide) ?_
        exact pf_X11_drop_b35 r Y h v1 1 _ _ hr H locs cells slots ls hH hS (mz_sub hl [0] rfl) hc hs
      · refine lv_iconst (v := 0) X.1 X.2.1 dX11_drop_30 (by decide) ?_
        refine lv_goto (tgt := 35) X.1 X.2.1 dX11_drop_31 (by decide) ?_
        exact pf_X11_drop_b35 r Y h v1 0 _ _ hr H locs cells slots ls hH hS (mz_sub hl [0] rfl) hc hs
    · refine lv_bipush (v := (-3)) X.1 X.2.1 dX11_drop_20 (by decide) ?_
      exact mz_iret Y dX11_drop_22 hH hS hc hs hr
  · refine lv_iconst (v := (-1)) X.1 X.2.1 dX11_drop_11 (by decide) ?_
    exact mz_iret Y dX11_drop_12 hH hS hc hs hr
set_option maxRecDepth 100000 in
theorem ct_X11_drop (l : Launch) (g : mz_G) (h : mz_H) (a0 : (Option Nat)) (x1 : Int32) (x2 : Int32) (r : Int32) (hf : mz_H) (k n : Nat) (hr : fn_X11_drop h a0 x1 x2 = some (r, hf, k, n)) : mz_C l g yX11_drop cX11_drop 5 (some .int) 2 44 [va_rf a0, .int x1, .int x2] h (some (Value.int r)) hf k n := by
  refine mz_met (as := [(false, va_rf a0), (false, .int x1), (false, .int x2)]) (plainFor_of_name (by decide)) (mz_c1 (mz_cat_rf _) (mz_c1 rfl (mz_c1 rfl mz_c0))) (Nat.le_of_ble_eq_true rfl) ?_
  intro p e s m args below meth c Y
  exact pf_X11_drop_b0 r Y h a0 x1 x2 _ _ hr
theorem dX11_size_0 : decode cX11_size 0 = .ok (.aload_n 0, 1) := by decide +kernel
theorem dX11_size_1 : decode cX11_size 1 = .ok (.iconst 0, 1) := by decide +kernel
theorem dX11_size_2 : decode cX11_size 2 = .ok (.putfield 185, 3) := by decide +kernel
theorem dX11_size_5 : decode cX11_size 5 = .ok (.aload_n 0, 1) := by decide +kernel
theorem dX11_size_6 : decode cX11_size 6 = .ok (.iload_n 1, 1) := by decide +kernel
theorem dX11_size_7 : decode cX11_size 7 = .ok (.iload_n 2, 1) := by decide +kernel
theorem dX11_size_8 : decode cX11_size 8 = .ok (.invokevirtual 226, 3) := by decide +kernel
theorem dX11_size_11 : decode cX11_size 11 = .ok (.astore 4, 2) := by decide +kernel
theorem dX11_size_13 : decode cX11_size 13 = .ok (.aload 4, 2) := by decide +kernel
theorem dX11_size_15 : decode cX11_size 15 = .ok (.ifnonnull 5, 3) := by decide +kernel
theorem dX11_size_18 : decode cX11_size 18 = .ok (.iconst (-1), 1) := by decide +kernel
theorem dX11_size_19 : decode cX11_size 19 = .ok (.ireturn, 1) := by decide +kernel
theorem dX11_size_20 : decode cX11_size 20 = .ok (.aload 4, 2) := by decide +kernel
theorem dX11_size_22 : decode cX11_size 22 = .ok (.invokevirtual 248, 3) := by decide +kernel
theorem dX11_size_25 : decode cX11_size 25 = .ok (.ifCond .eq 9, 3) := by decide +kernel
theorem dX11_size_28 : decode cX11_size 28 = .ok (.aload_n 0, 1) := by decide +kernel
theorem dX11_size_29 : decode cX11_size 29 = .ok (.iconst 1, 1) := by decide +kernel
theorem dX11_size_30 : decode cX11_size 30 = .ok (.invokevirtual 195, 3) := by decide +kernel
theorem dX11_size_33 : decode cX11_size 33 = .ok (.ireturn, 1) := by decide +kernel
theorem dX11_size_34 : decode cX11_size 34 = .ok (.iload_n 3, 1) := by decide +kernel
theorem dX11_size_35 : decode cX11_size 35 = .ok (.bipush (-9), 2) := by decide +kernel
theorem dX11_size_37 : decode cX11_size 37 = .ok (.if_icmp .ne 9, 3) := by decide +kernel
theorem dX11_size_40 : decode cX11_size 40 = .ok (.aload 4, 2) := by decide +kernel
theorem dX11_size_42 : decode cX11_size 42 = .ok (.invokevirtual 254, 3) := by decide +kernel
theorem dX11_size_45 : decode cX11_size 45 = .ok (.ireturn, 1) := by decide +kernel
theorem dX11_size_46 : decode cX11_size 46 = .ok (.aload 4, 2) := by decide +kernel
theorem dX11_size_48 : decode cX11_size 48 = .ok (.getfield 234, 3) := by decide +kernel
theorem dX11_size_51 : decode cX11_size 51 = .ok (.iconst 2, 1) := by decide +kernel
theorem dX11_size_52 : decode cX11_size 52 = .ok (.if_icmp .ge 9, 3) := by decide +kernel
theorem dX11_size_55 : decode cX11_size 55 = .ok (.aload_n 0, 1) := by decide +kernel
theorem dX11_size_56 : decode cX11_size 56 = .ok (.iconst 2, 1) := by decide +kernel
theorem dX11_size_57 : decode cX11_size 57 = .ok (.invokevirtual 195, 3) := by decide +kernel
theorem dX11_size_60 : decode cX11_size 60 = .ok (.ireturn, 1) := by decide +kernel
theorem dX11_size_61 : decode cX11_size 61 = .ok (.iload_n 3, 1) := by decide +kernel
theorem dX11_size_62 : decode cX11_size 62 = .ok (.ifCond .lt 12, 3) := by decide +kernel
theorem dX11_size_65 : decode cX11_size 65 = .ok (.iload_n 3, 1) := by decide +kernel
theorem dX11_size_66 : decode cX11_size 66 = .ok (.aload 4, 2) := by decide +kernel
theorem dX11_size_68 : decode cX11_size 68 = .ok (.invokevirtual 254, 3) := by decide +kernel
theorem dX11_size_71 : decode cX11_size 71 = .ok (.if_icmp .lt 9, 3) := by decide +kernel
theorem dX11_size_74 : decode cX11_size 74 = .ok (.aload_n 0, 1) := by decide +kernel
theorem dX11_size_75 : decode cX11_size 75 = .ok (.iconst 3, 1) := by decide +kernel
theorem dX11_size_76 : decode cX11_size 76 = .ok (.invokevirtual 195, 3) := by decide +kernel
theorem dX11_size_79 : decode cX11_size 79 = .ok (.ireturn, 1) := by decide +kernel
theorem dX11_size_80 : decode cX11_size 80 = .ok (.aload 4, 2) := by decide +kernel
theorem dX11_size_82 : decode cX11_size 82 = .ok (.iload_n 3, 1) := by decide +kernel
theorem dX11_size_83 : decode cX11_size 83 = .ok (.invokevirtual 257, 3) := by decide +kernel
theorem dX11_size_86 : decode cX11_size 86 = .ok (.astore 5, 2) := by decide +kernel
theorem dX11_size_88 : decode cX11_size 88 = .ok (.aload 5, 2) := by decide +kernel
theorem dX11_size_90 : decode cX11_size 90 = .ok (.ifnonnull 11, 3) := by decide +kernel
theorem dX11_size_93 : decode cX11_size 93 = .ok (.aload_n 0, 1) := by decide +kernel
theorem dX11_size_94 : decode cX11_size 94 = .ok (.iconst 1, 1) := by decide +kernel
theorem dX11_size_95 : decode cX11_size 95 = .ok (.invokevirtual 195, 3) := by decide +kernel
theorem dX11_size_98 : decode cX11_size 98 = .ok (.goto 9, 3) := by decide +kernel
theorem dX11_size_101 : decode cX11_size 101 = .ok (.aload 5, 2) := by decide +kernel
theorem dX11_size_103 : decode cX11_size 103 = .ok (.getfield 261, 3) := by decide +kernel
theorem dX11_size_106 : decode cX11_size 106 = .ok (.arraylength, 1) := by decide +kernel
theorem dX11_size_107 : decode cX11_size 107 = .ok (.ireturn, 1) := by decide +kernel
def fn_X11_size_b74 (h : mz_H) (a0 : (Option Nat)) : mz_Res Int32 :=
  mz_chk (mz_is h a0 10) <| mz_call (fn_X11_comeTo h a0 3) fun v1 h =>
  mz_ret v1 h
set_option maxHeartbeats 4000000 in
set_option maxRecDepth 100000 in
theorem pf_X11_size_b74 (r : Int32) (Y : mz_Y p g RX11 cX11_size 6 (some .int) "size" (mz_AF h0) s m args meth c) (h : mz_H) (a0 : (Option Nat)) (dc ds : Nat) (hr : fn_X11_size_b74 h a0 = some (r, hf, dc, ds)) : mz_Go l g p e s m args below meth c 2 44 DC DS h0 (some (Value.int r)) hf 6 74 [(0, false, va_rf a0)] [] h dc ds := by
  unfold fn_X11_size_b74 at hr
  intro H locs cells slots ls hH hS hl hc hs
  have X := Y.1
  refine mz_aload_n X dX11_size_74 rfl (mz_at hl 0 rfl) ?_
  refine lv_iconst (v := 3) X.1 X.2.1 dX11_size_75 (by decide) ?_
  refine mz_kV Value.int X hH hS hl.1.1 [.int 3] [] hr (ct_X11_comeTo l g h a0 3) mb_RX11_195 rfl im_X11_comeTo rfl (Nat.le_of_ble_eq_true rfl) ⟨Nat.le_of_ble_eq_true rfl, Nat.le_of_ble_eq_true rfl⟩ hc hs dX11_size_76 rfl (fun v1 h H locs cells slots dc ds hr hH hS hc hs => ?_)
  exact mz_iret Y dX11_size_79 hH hS hc hs hr
def fn_X11_size (h : mz_H) (a0 : (Option Nat)) (x1 : Int32) (x2 : Int32) (x3 : Int32) : mz_Res Int32 :=
  mz_op (mz_pF h a0 10 8 (Value.int 0)) fun h =>
  mz_chk (mz_is h a0 10) <| mz_call (fn_X11_slotOf h a0 x1 x2) fun v1 h =>
  if v1 = none then
    mz_ret (-1) h
  else
    mz_chk (mz_is h v1 5) <| mz_call (fn_X6_hasNothing h v1) fun v2 h =>
    if v2 = 0 then
      if x3 = (-9) then
        mz_chk (mz_is h v1 5) <| mz_call (fn_X6_length h v1) fun v10 h =>
        mz_ret v10 h
      else
        mz_op (mz_fI h v1 5 2) fun v3 =>
        if 2 ≤ v3 then
          if x3 < 0 then
            fn_X11_size_b74 h a0
          else
            mz_chk (mz_is h v1 5) <| mz_call (fn_X6_length h v1) fun v4 h =>
            if x3 < v4 then
              mz_chk (mz_is h v1 5) <| mz_call (fn_X6_rowAt h v1 x3) fun v5 h =>
              if v5 = none then
                mz_chk (mz_is h a0 10) <| mz_call (fn_X11_comeTo h a0 1) fun v8 h =>
                mz_ret v8 h
              else
                mz_op (mz_fR h v5 4 0) fun v6 =>
                mz_op (mz_len h v6 1) fun v7 =>
                mz_ret v7 h
            else
              fn_X11_size_b74 h a0
        else
          mz_chk (mz_is h a0 10) <| mz_call (fn_X11_comeTo h a0 2) fun v9 h =>
          mz_ret v9 h
    else
      mz_chk (mz_is h a0 10) <| mz_call (fn_X11_comeTo h a0 1) fun v11 h =>
      mz_ret v11 h
set_option maxHeartbeats 4000000 in
set_option maxRecDepth 100000 in
theorem pf_X11_size_b0 (r : Int32) (Y : mz_Y p g RX11 cX11_size 6 (some .int) "size" (mz_AF h0) s m args meth c) (h : mz_H) (a0 : (Option Nat)) (x1 : Int32) (x2 : Int32) (x3 : Int32) (dc ds : Nat) (hr : fn_X11_size h a0 x1 x2 x3 = some (r, hf, dc, ds)) : mz_Go l g p e s m args below meth c 2 44 DC DS h0 (some (Value.int r)) hf 6 0 [(0, false, va_rf a0), (1, false, .int x1), (2, false, .int x2), (3, false, .int x3)] [] h dc ds := by
  unfold fn_X11_size at hr
  intro H locs cells slots ls hH hS hl hc hs
  have X := Y.1
  refine mz_aload_n X dX11_size_0 rfl (mz_at hl 0 rfl) ?_
  refine lv_iconst (v := 0) X.1 X.2.1 dX11_size_1 (by decide) ?_
  refine mz_put X hH hS fp_RX11_185 dX11_size_2 rfl rfl hr (fun h H locs hr hH hS => ?_)
  refine mz_aload_n X dX11_size_5 rfl (mz_at hl 0 rfl) ?_
  refine lv_iload_n X.1 X.2.1 dX11_size_6 rfl (mz_at hl 1 rfl) ?_
  refine lv_iload_n X.1 X.2.1 dX11_size_7 rfl (mz_at hl 2 rfl) ?_
  refine mz_kV va_rf X hH hS hl.1.1 [.int x1, .int x2] [] hr (ct_X11_slotOf l g h a0 x1 x2) mb_RX11_226 rfl im_X11_slotOf rfl (Nat.le_of_ble_eq_true rfl) ⟨Nat.le_of_ble_eq_true rfl, Nat.le_of_ble_eq_true rfl⟩ hc hs dX11_size_8 rfl (fun v1 h H locs cells slots dc ds hr hH hS hc hs => ?_)
  refine mz_astore X [(4, false, va_rf v1), (0, false, va_rf a0), (1, false, .int x1), (2, false, .int x2), (3, false, .int x3)] dX11_size_11 hl (by decide) rfl (fun ls hl => ?_)
  refine mz_aload X dX11_size_13 (mz_at hl 0 rfl) ?_
  refine mz_ifnonnull X 20 dX11_size_15 (by decide) hr (fun hr => ?_) (fun hr => ?_)
  · refine mz_aload X dX11_size_20 (mz_at hl 0 rfl) ?_
    refine mz_kV Value.int X hH hS hl.1.1 [] [] hr (ct_X6_hasNothing l g h v1) mb_RX11_248 rfl im_X6_hasNothing rfl (Nat.le_of_ble_eq_true rfl) ⟨Nat.le_of_ble_eq_true rfl, Nat.le_of_ble_eq_true rfl⟩ hc hs dX11_size_22 rfl (fun v2 h H locs cells slots dc ds hr hH hS hc hs => ?_)
    refine mz_if_eq X 34 dX11_size_25 (by decide) hr (fun hr => ?_) (fun hr => ?_)
    · refine lv_iload_n X.1 X.2.1 dX11_size_34 rfl (mz_at hl 4 rfl) ?_
      refine lv_bipush (v := (-9)) X.1 X.2.1 dX11_size_35 (by decide) ?_
      refine mz_icmp_ne X 46 dX11_size_37 (by decide) hr (fun hr => ?_) (fun hr => ?_)
      · refine mz_aload X dX11_size_46 (mz_at hl 0 rfl) ?_
        refine mz_getI X hH fl_RX11_234 dX11_size_48 hr (fun v3 hr => ?_)
        refine lv_iconst (v := 2) X.1 X.2.1 dX11_size_51 (by decide) ?_
        refine mz_icmp_ge X 61 dX11_size_52 (by decide) hr (fun hr => ?_) (fun hr => ?_)
        · refine lv_iload_n X.1 X.2.1 dX11_size_61 rfl (mz_at hl 4 rfl) ?_
          refine mz_if_lt X 74 dX11_size_62 (by decide) hr (fun hr => ?_) (fun hr => ?_)
          · exact pf_X11_size_b74 r Y h a0 _ _ hr H locs cells slots ls hH hS (mz_sub hl [1] rfl) hc hs
          · refine lv_iload_n X.1 X.2.1 dX11_size_65 rfl (mz_at hl 4 rfl) ?_
            refine mz_aload X dX11_size_66 (mz_at hl 0 rfl) ?_
            refine mz_kV Value.int X hH hS hl.1.1 [] [.int x3] hr (ct_X6_length l g h v1) mb_RX11_254 rfl im_X6_length rfl (Nat.le_of_ble_eq_true rfl) ⟨Nat.le_of_ble_eq_true rfl, Nat.le_of_ble_eq_true rfl⟩ hc hs dX11_size_68 rfl (fun v4 h H locs cells slots dc ds hr hH hS hc hs => ?_)
            refine mz_icmp_lt X 80 dX11_size_71 (by decide) hr (fun hr => ?_) (fun hr => ?_)
            · refine mz_aload X dX11_size_80 (mz_at hl 0 rfl) ?_
              refine lv_iload_n X.1 X.2.1 dX11_size_82 rfl (mz_at hl 4 rfl) ?_
              refine mz_kV va_rf X hH hS hl.1.1 [.int x3] [] hr (ct_X6_rowAt l g h v1 x3) mb_RX11_257 rfl im_X6_rowAt rfl (Nat.le_of_ble_eq_true rfl) ⟨Nat.le_of_ble_eq_true rfl, Nat.le_of_ble_eq_true rfl⟩ hc hs dX11_size_83 rfl (fun v5 h H locs cells slots dc ds hr hH hS hc hs => ?_)
              refine mz_astore X [(5, false, va_rf v5), (4, false, va_rf v1), (0, false, va_rf a0), (1, false, .int x1), (2, false, .int x2), (3, false, .int x3)] dX11_size_86 hl (by decide) rfl (fun ls hl => ?_)
              refine mz_aload X dX11_size_88 (mz_at hl 0 rfl) ?_
              refine mz_ifnonnull X 101 dX11_size_90 (by decide) hr (fun hr => ?_) (fun hr => ?_)
              · refine mz_aload X dX11_size_101 (mz_at hl 0 rfl) ?_
                refine mz_getR X hH fl_RX11_261 dX11_size_103 hr (fun v6 hr => ?_)
                refine mz_alen (t := 1) X hH (by decide) dX11_size_106 hr (fun v7 hr => ?_)
                exact mz_iret Y dX11_size_107 hH hS hc hs hr
              · refine mz_aload_n X dX11_size_93 rfl (mz_at hl 2 rfl) ?_
                refine lv_iconst (v := 1) X.1 X.2.1 dX11_size_94 (by decide) ?_
                refine mz_kV Value.int X hH hS hl.1.1 [.int 1] [] hr (ct_X11_comeTo l g h a0 1) mb_RX11_195 rfl im_X11_comeTo rfl (Nat.le_of_ble_eq_true rfl) ⟨Nat.le_of_ble_eq_true rfl, Nat.le_of_ble_eq_true rfl⟩ hc hs dX11_size_95 rfl (fun v8 h H locs cells slots dc ds hr hH hS hc hs => ?_)
                refine lv_goto (tgt := 107) X.1 X.2.1 dX11_size_98 (by decide) ?_
                exact mz_iret Y dX11_size_107 hH hS hc hs hr
            · exact pf_X11_size_b74 r Y h a0 _ _ hr H locs cells slots ls hH hS (mz_sub hl [1] rfl) hc hs
        · refine mz_aload_n X dX11_size_55 rfl (mz_at hl 1 rfl) ?_
          refine lv_iconst (v := 2) X.1 X.2.1 dX11_size_56 (by decide) ?_
          refine mz_kV Value.int X hH hS hl.1.1 [.int 2] [] hr (ct_X11_comeTo l g h a0 2) mb_RX11_195 rfl im_X11_comeTo rfl (Nat.le_of_ble_eq_true rfl) ⟨Nat.le_of_ble_eq_true rfl, Nat.le_of_ble_eq_true rfl⟩ hc hs dX11_size_57 rfl (fun v9 h H locs cells slots dc ds hr hH hS hc hs => ?_)
          exact mz_iret Y dX11_size_60 hH hS hc hs hr
      · refine mz_aload X dX11_size_40 (mz_at hl 0 rfl) ?_
        refine mz_kV Value.int X hH hS hl.1.1 [] [] hr (ct_X6_length l g h v1) mb_RX11_254 rfl im_X6_length rfl (Nat.le_of_ble_eq_true rfl) ⟨Nat.le_of_ble_eq_true rfl, Nat.le_of_ble_eq_true rfl⟩ hc hs dX11_size_42 rfl (fun v10 h H locs cells slots dc ds hr hH hS hc hs => ?_)
        exact mz_iret Y dX11_size_45 hH hS hc hs hr
    · refine mz_aload_n X dX11_size_28 rfl (mz_at hl 1 rfl) ?_
      refine lv_iconst (v := 1) X.1 X.2.1 dX11_size_29 (by decide) ?_
      refine mz_kV Value.int X hH hS hl.1.1 [.int 1] [] hr (ct_X11_comeTo l g h a0 1) mb_RX11_195 rfl im_X11_comeTo rfl (Nat.le_of_ble_eq_true rfl) ⟨Nat.le_of_ble_eq_true rfl, Nat.le_of_ble_eq_true rfl⟩ hc hs dX11_size_30 rfl (fun v11 h H locs cells slots dc ds hr hH hS hc hs => ?_)
      exact mz_iret Y dX11_size_33 hH hS hc hs hr
  · refine lv_iconst (v := (-1)) X.1 X.2.1 dX11_size_18 (by decide) ?_
    exact mz_iret Y dX11_size_19 hH hS hc hs hr
set_option maxRecDepth 100000 in
theorem ct_X11_size (l : Launch) (g : mz_G) (h : mz_H) (a0 : (Option Nat)) (x1 : Int32) (x2 : Int32) (x3 : Int32) (r : Int32) (hf : mz_H) (k n : Nat) (hr : fn_X11_size h a0 x1 x2 x3 = some (r, hf, k, n)) : mz_C l g yX11_size cX11_size 6 (some .int) 2 44 [va_rf a0, .int x1, .int x2, .int x3] h (some (Value.int r)) hf k n := by
  refine mz_met (as := [(false, va_rf a0), (false, .int x1), (false, .int x2), (false, .int x3)]) (plainFor_of_name (by decide)) (mz_c1 (mz_cat_rf _) (mz_c1 rfl (mz_c1 rfl (mz_c1 rfl mz_c0)))) (Nat.le_of_ble_eq_true rfl) ?_
  intro p e s m args below meth c Y
  exact pf_X11_size_b0 r Y h a0 x1 x2 x3 _ _ hr
theorem dX11_zeroAfter_0 : decode cX11_zeroAfter 0 = .ok (.aload_n 0, 1) := by decide +kernel
theorem dX11_zeroAfter_1 : decode cX11_zeroAfter 1 = .ok (.iload_n 1, 1) := by decide +kernel
theorem dX11_zeroAfter_2 : decode cX11_zeroAfter 2 = .ok (.invokevirtual 195, 3) := by decide +kernel
theorem dX11_zeroAfter_5 : decode cX11_zeroAfter 5 = .ok (.pop, 1) := by decide +kernel
theorem dX11_zeroAfter_6 : decode cX11_zeroAfter 6 = .ok (.lconst 0, 1) := by decide +kernel
theorem dX11_zeroAfter_7 : decode cX11_zeroAfter 7 = .ok (.lreturn, 1) := by decide +kernel
def fn_X11_zeroAfter (h : mz_H) (a0 : (Option Nat)) (x1 : Int32) : mz_Res Int64 :=
  mz_chk (mz_is h a0 10) <| mz_call (fn_X11_comeTo h a0 x1) fun v1 h =>
  mz_ret 0 h
set_option maxHeartbeats 4000000 in
set_option maxRecDepth 100000 in
theorem pf_X11_zeroAfter_b0 (r : Int64) (Y : mz_Y p g RX11 cX11_zeroAfter 2 (some .long) "zeroAfter" (mz_AF h0) s m args meth c) (h : mz_H) (a0 : (Option Nat)) (x1 : Int32) (dc ds : Nat) (hr : fn_X11_zeroAfter h a0 x1 = some (r, hf, dc, ds)) : mz_Go l g p e s m args below meth c 1 21 DC DS h0 (some (Value.long r)) hf 2 0 [(0, false, va_rf a0), (1, false, .int x1)] [] h dc ds := by
  unfold fn_X11_zeroAfter at hr
  intro H locs cells slots ls hH hS hl hc hs
  have X := Y.1
  refine mz_aload_n X dX11_zeroAfter_0 rfl (mz_at hl 0 rfl) ?_
  refine lv_iload_n X.1 X.2.1 dX11_zeroAfter_1 rfl (mz_at hl 1 rfl) ?_
  refine mz_kV Value.int X hH hS hl.1.1 [.int x1] [] hr (ct_X11_comeTo l g h a0 x1) mb_RX11_195 rfl im_X11_comeTo rfl (Nat.le_of_ble_eq_true rfl) ⟨Nat.le_of_ble_eq_true rfl, Nat.le_of_ble_eq_true rfl⟩ hc hs dX11_zeroAfter_2 rfl (fun v1 h H locs cells slots dc ds hr hH hS hc hs => ?_)
  refine lv_pop X.1 X.2.1 dX11_zeroAfter_5 rfl ?_
  refine lv_lconst (v := 0) X.1 X.2.1 dX11_zeroAfter_6 (by decide) ?_
  exact mz_lret Y dX11_zeroAfter_7 hH hS hc hs hr
set_option maxRecDepth 100000 in
theorem ct_X11_zeroAfter (l : Launch) (g : mz_G) (h : mz_H) (a0 : (Option Nat)) (x1 : Int32) (r : Int64) (hf : mz_H) (k n : Nat) (hr : fn_X11_zeroAfter h a0 x1 = some (r, hf, k, n)) : mz_C l g yX11_zeroAfter cX11_zeroAfter 2 (some .long) 1 21 [va_rf a0, .int x1] h (some (Value.long r)) hf k n := by
  refine mz_met (as := [(false, va_rf a0), (false, .int x1)]) (plainFor_of_name (by decide)) (mz_c1 (mz_cat_rf _) (mz_c1 rfl mz_c0)) (Nat.le_of_ble_eq_true rfl) ?_
  intro p e s m args below meth c Y
  exact pf_X11_zeroAfter_b0 r Y h a0 x1 _ _ hr
theorem dX11_get_0 : decode cX11_get 0 = .ok (.aload_n 0, 1) := by decide +kernel
theorem dX11_get_1 : decode cX11_get 1 = .ok (.iconst 0, 1) := by decide +kernel
theorem dX11_get_2 : decode cX11_get 2 = .ok (.putfield 185, 3) := by decide +kernel
theorem dX11_get_5 : decode cX11_get 5 = .ok (.aload_n 0, 1) := by decide +kernel
theorem dX11_get_6 : decode cX11_get 6 = .ok (.iload_n 1, 1) := by decide +kernel
theorem dX11_get_7 : decode cX11_get 7 = .ok (.iload_n 2, 1) := by decide +kernel
theorem dX11_get_8 : decode cX11_get 8 = .ok (.invokevirtual 226, 3) := by decide +kernel
theorem dX11_get_11 : decode cX11_get 11 = .ok (.astore 5, 2) := by decide +kernel
theorem dX11_get_13 : decode cX11_get 13 = .ok (.aload 5, 2) := by decide +kernel
theorem dX11_get_15 : decode cX11_get 15 = .ok (.ifnonnull 5, 3) := by decide +kernel
theorem dX11_get_18 : decode cX11_get 18 = .ok (.lconst 0, 1) := by decide +kernel
theorem dX11_get_19 : decode cX11_get 19 = .ok (.lreturn, 1) := by decide +kernel
theorem dX11_get_20 : decode cX11_get 20 = .ok (.aload 5, 2) := by decide +kernel
theorem dX11_get_22 : decode cX11_get 22 = .ok (.iload_n 3, 1) := by decide +kernel
theorem dX11_get_23 : decode cX11_get 23 = .ok (.iload 4, 2) := by decide +kernel
theorem dX11_get_25 : decode cX11_get 25 = .ok (.invokevirtual 265, 3) := by decide +kernel
theorem dX11_get_28 : decode cX11_get 28 = .ok (.istore 6, 2) := by decide +kernel
theorem dX11_get_30 : decode cX11_get 30 = .ok (.iload 6, 2) := by decide +kernel
theorem dX11_get_32 : decode cX11_get 32 = .ok (.ifCond .ne 14, 3) := by decide +kernel
theorem dX11_get_35 : decode cX11_get 35 = .ok (.aload 5, 2) := by decide +kernel
theorem dX11_get_37 : decode cX11_get 37 = .ok (.iload_n 3, 1) := by decide +kernel
theorem dX11_get_38 : decode cX11_get 38 = .ok (.iload 4, 2) := by decide +kernel
theorem dX11_get_40 : decode cX11_get 40 = .ok (.invokevirtual 269, 3) := by decide +kernel
theorem dX11_get_43 : decode cX11_get 43 = .ok (.goto 9, 3) := by decide +kernel
theorem dX11_get_46 : decode cX11_get 46 = .ok (.aload_n 0, 1) := by decide +kernel
theorem dX11_get_47 : decode cX11_get 47 = .ok (.iload 6, 2) := by decide +kernel
theorem dX11_get_49 : decode cX11_get 49 = .ok (.invokevirtual 273, 3) := by decide +kernel
theorem dX11_get_52 : decode cX11_get 52 = .ok (.lreturn, 1) := by decide +kernel
def fn_X11_get (h : mz_H) (a0 : (Option Nat)) (x1 : Int32) (x2 : Int32) (x3 : Int32) (x4 : Int32) : mz_Res Int64 :=
  mz_op (mz_pF h a0 10 8 (Value.int 0)) fun h =>
  mz_chk (mz_is h a0 10) <| mz_call (fn_X11_slotOf h a0 x1 x2) fun v1 h =>
  if v1 = none then
    mz_ret 0 h
  else
    mz_chk (mz_is h v1 5) <| mz_call (fn_X6_faultAt h v1 x3 x4) fun v2 h =>
    if v2 = 0 then
      mz_chk (mz_is h v1 5) <| mz_call (fn_X6_cellAt h v1 x3 x4) fun v4 h =>
      mz_ret v4 h
    else
      mz_chk (mz_is h a0 10) <| mz_call (fn_X11_zeroAfter h a0 v2) fun v3 h =>
      mz_ret v3 h
set_option maxHeartbeats 4000000 in
set_option maxRecDepth 100000 in
theorem pf_X11_get_b0 (r : Int64) (Y : mz_Y p g RX11 cX11_get 7 (some .long) "get" (mz_AF h0) s m args meth c) (h : mz_H) (a0 : (Option Nat)) (x1 : Int32) (x2 : Int32) (x3 : Int32) (x4 : Int32) (dc ds : Nat) (hr : fn_X11_get h a0 x1 x2 x3 x4 = some (r, hf, dc, ds)) : mz_Go l g p e s m args below meth c 2 45 DC DS h0 (some (Value.long r)) hf 7 0 [(0, false, va_rf a0), (1, false, .int x1), (2, false, .int x2), (3, false, .int x3), (4, false, .int x4)] [] h dc ds := by
  unfold fn_X11_get at hr
  intro H locs cells slots ls hH hS hl hc hs
  have X := Y.1
  refine mz_aload_n X dX11_get_0 rfl (mz_at hl 0 rfl) ?_
  refine lv_iconst (v := 0) X.1 X.2.1 dX11_get_1 (by decide) ?_
  refine mz_put X hH hS fp_RX11_185 dX11_get_2 rfl rfl hr (fun h H locs hr hH hS => ?_)
  refine mz_aload_n X dX11_get_5 rfl (mz_at hl 0 rfl) ?_
  refine lv_iload_n X.1 X.2.1 dX11_get_6 rfl (mz_at hl 1 rfl) ?_
  refine lv_iload_n X.1 X.2.1 dX11_get_7 rfl (mz_at hl 2 rfl) ?_
  refine mz_kV va_rf X hH hS hl.1.1 [.int x1, .int x2] [] hr (ct_X11_slotOf l g h a0 x1 x2) mb_RX11_226 rfl im_X11_slotOf rfl (Nat.le_of_ble_eq_true rfl) ⟨Nat.le_of_ble_eq_true rfl, Nat.le_of_ble_eq_true rfl⟩ hc hs dX11_get_8 rfl (fun v1 h H locs cells slots dc ds hr hH hS hc hs => ?_)
  refine mz_astore X [(5, false, va_rf v1), (0, false, va_rf a0), (1, false, .int x1), (2, false, .int x2), (3, false, .int x3), (4, false, .int x4)] dX11_get_11 hl (by decide) rfl (fun ls hl => ?_)
  refine mz_aload X dX11_get_13 (mz_at hl 0 rfl) ?_
  refine mz_ifnonnull X 20 dX11_get_15 (by decide) hr (fun hr => ?_) (fun hr => ?_)
  · refine mz_aload X dX11_get_20 (mz_at hl 0 rfl) ?_
    refine lv_iload_n X.1 X.2.1 dX11_get_22 rfl (mz_at hl 4 rfl) ?_
    refine lv_iload X.1 X.2.1 dX11_get_23 (mz_at hl 5 rfl) ?_
    refine mz_kV Value.int X hH hS hl.1.1 [.int x3, .int x4] [] hr (ct_X6_faultAt l g h v1 x3 x4) mb_RX11_265 rfl im_X6_faultAt rfl (Nat.le_of_ble_eq_true rfl) ⟨Nat.le_of_ble_eq_true rfl, Nat.le_of_ble_eq_true rfl⟩ hc hs dX11_get_25 rfl (fun v2 h H locs cells slots dc ds hr hH hS hc hs => ?_)
    refine mz_istore X [(6, false, .int v2), (5, false, va_rf v1), (0, false, va_rf a0), (1, false, .int x1), (2, false, .int x2), (3, false, .int x3), (4, false, .int x4)] dX11_get_28 hl (by decide) rfl (fun ls hl => ?_)
    refine lv_iload X.1 X.2.1 dX11_get_30 (mz_at hl 0 rfl) ?_
    refine mz_if_ne X 46 dX11_get_32 (by decide) hr (fun hr => ?_) (fun hr => ?_)
    · refine mz_aload_n X dX11_get_46 rfl (mz_at hl 2 rfl) ?_
      refine lv_iload X.1 X.2.1 dX11_get_47 (mz_at hl 0 rfl) ?_
      refine mz_kV Value.long X hH hS hl.1.1 [.int v2] [] hr (ct_X11_zeroAfter l g h a0 v2) mb_RX11_273 rfl im_X11_zeroAfter rfl (Nat.le_of_ble_eq_true rfl) ⟨Nat.le_of_ble_eq_true rfl, Nat.le_of_ble_eq_true rfl⟩ hc hs dX11_get_49 rfl (fun v3 h H locs cells slots dc ds hr hH hS hc hs => ?_)
      exact mz_lret Y dX11_get_52 hH hS hc hs hr
    · refine mz_aload X dX11_get_35 (mz_at hl 1 rfl) ?_
      refine lv_iload_n X.1 X.2.1 dX11_get_37 rfl (mz_at hl 5 rfl) ?_
      refine lv_iload X.1 X.2.1 dX11_get_38 (mz_at hl 6 rfl) ?_
      refine mz_kV Value.long X hH hS hl.1.1 [.int x3, .int x4] [] hr (ct_X6_cellAt l g h v1 x3 x4) mb_RX11_269 rfl im_X6_cellAt rfl (Nat.le_of_ble_eq_true rfl) ⟨Nat.le_of_ble_eq_true rfl, Nat.le_of_ble_eq_true rfl⟩ hc hs dX11_get_40 rfl (fun v4 h H locs cells slots dc ds hr hH hS hc hs => ?_)
      refine lv_goto (tgt := 52) X.1 X.2.1 dX11_get_43 (by decide) ?_
      exact mz_lret Y dX11_get_52 hH hS hc hs hr
  · refine lv_lconst (v := 0) X.1 X.2.1 dX11_get_18 (by decide) ?_
    exact mz_lret Y dX11_get_19 hH hS hc hs hr
set_option maxRecDepth 100000 in
theorem ct_X11_get (l : Launch) (g : mz_G) (h : mz_H) (a0 : (Option Nat)) (x1 : Int32) (x2 : Int32) (x3 : Int32) (x4 : Int32) (r : Int64) (hf : mz_H) (k n : Nat) (hr : fn_X11_get h a0 x1 x2 x3 x4 = some (r, hf, k, n)) : mz_C l g yX11_get cX11_get 7 (some .long) 2 45 [va_rf a0, .int x1, .int x2, .int x3, .int x4] h (some (Value.long r)) hf k n := by
  refine mz_met (as := [(false, va_rf a0), (false, .int x1), (false, .int x2), (false, .int x3), (false, .int x4)]) (plainFor_of_name (by decide)) (mz_c1 (mz_cat_rf _) (mz_c1 rfl (mz_c1 rfl (mz_c1 rfl (mz_c1 rfl mz_c0))))) (Nat.le_of_ble_eq_true rfl) ?_
  intro p e s m args below meth c Y
  exact pf_X11_get_b0 r Y h a0 x1 x2 x3 x4 _ _ hr
theorem dX11_put_0 : decode cX11_put 0 = .ok (.aload_n 1, 1) := by decide +kernel
theorem dX11_put_1 : decode cX11_put 1 = .ok (.iload_n 2, 1) := by decide +kernel
theorem dX11_put_2 : decode cX11_put 2 = .ok (.iload_n 3, 1) := by decide +kernel
theorem dX11_put_3 : decode cX11_put 3 = .ok (.invokevirtual 265, 3) := by decide +kernel
theorem dX11_put_6 : decode cX11_put 6 = .ok (.istore 6, 2) := by decide +kernel
theorem dX11_put_8 : decode cX11_put 8 = .ok (.iload 6, 2) := by decide +kernel
theorem dX11_put_10 : decode cX11_put 10 = .ok (.ifCond .eq 10, 3) := by decide +kernel
theorem dX11_put_13 : decode cX11_put 13 = .ok (.aload_n 0, 1) := by decide +kernel
theorem dX11_put_14 : decode cX11_put 14 = .ok (.iload 6, 2) := by decide +kernel
theorem dX11_put_16 : decode cX11_put 16 = .ok (.invokevirtual 195, 3) := by decide +kernel
theorem dX11_put_19 : decode cX11_put 19 = .ok (.ireturn, 1) := by decide +kernel
theorem dX11_put_20 : decode cX11_put 20 = .ok (.aload_n 1, 1) := by decide +kernel
theorem dX11_put_21 : decode cX11_put 21 = .ok (.iload_n 2, 1) := by decide +kernel
theorem dX11_put_22 : decode cX11_put 22 = .ok (.iload_n 3, 1) := by decide +kernel
theorem dX11_put_23 : decode cX11_put 23 = .ok (.lload 4, 2) := by decide +kernel
theorem dX11_put_25 : decode cX11_put 25 = .ok (.invokevirtual 380, 3) := by decide +kernel
theorem dX11_put_28 : decode cX11_put 28 = .ok (.iconst 1, 1) := by decide +kernel
theorem dX11_put_29 : decode cX11_put 29 = .ok (.ireturn, 1) := by decide +kernel
def fn_X11_put (h : mz_H) (a0 : (Option Nat)) (a1 : (Option Nat)) (x2 : Int32) (x3 : Int32) (j4 : Int64) : mz_Res Int32 :=
  mz_chk (mz_is h a1 5) <| mz_call (fn_X6_faultAt h a1 x2 x3) fun v1 h =>
  if v1 = 0 then
    mz_chk (mz_is h a1 5) <| mz_call (fn_X6_putCell h a1 x2 x3 j4) fun _ h =>
    mz_ret 1 h
  else
    mz_chk (mz_is h a0 10) <| mz_call (fn_X11_comeTo h a0 v1) fun v2 h =>
    mz_ret v2 h
set_option maxHeartbeats 4000000 in
set_option maxRecDepth 100000 in
theorem pf_X11_put_b0 (r : Int32) (Y : mz_Y p g RX11 cX11_put 7 (some .int) "put" (mz_AF h0) s m args meth c) (h : mz_H) (a0 : (Option Nat)) (a1 : (Option Nat)) (x2 : Int32) (x3 : Int32) (j4 : Int64) (dc ds : Nat) (hr : fn_X11_put h a0 a1 x2 x3 j4 = some (r, hf, dc, ds)) : mz_Go l g p e s m args below meth c 2 47 DC DS h0 (some (Value.int r)) hf 7 0 [(0, false, va_rf a0), (1, false, va_rf a1), (2, false, .int x2), (3, false, .int x3), (4, true, .long j4)] [] h dc ds := by
  unfold fn_X11_put at hr
  intro H locs cells slots ls hH hS hl hc hs
  have X := Y.1
  refine mz_aload_n X dX11_put_0 rfl (mz_at hl 1 rfl) ?_
  refine lv_iload_n X.1 X.2.1 dX11_put_1 rfl (mz_at hl 2 rfl) ?_
  refine lv_iload_n X.1 X.2.1 dX11_put_2 rfl (mz_at hl 3 rfl) ?_
  refine mz_kV Value.int X hH hS hl.1.1 [.int x2, .int x3] [] hr (ct_X6_faultAt l g h a1 x2 x3) mb_RX11_265 rfl im_X6_faultAt rfl (Nat.le_of_ble_eq_true rfl) ⟨Nat.le_of_ble_eq_true rfl, Nat.le_of_ble_eq_true rfl⟩ hc hs dX11_put_3 rfl (fun v1 h H locs cells slots dc ds hr hH hS hc hs => ?_)
  refine mz_istore X [(6, false, .int v1), (0, false, va_rf a0), (1, false, va_rf a1), (2, false, .int x2), (3, false, .int x3), (4, true, .long j4)] dX11_put_6 hl (by decide) rfl (fun ls hl => ?_)
  refine lv_iload X.1 X.2.1 dX11_put_8 (mz_at hl 0 rfl) ?_
  refine mz_if_eq X 20 dX11_put_10 (by decide) hr (fun hr => ?_) (fun hr => ?_)
  · refine mz_aload_n X dX11_put_20 rfl (mz_at hl 2 rfl) ?_
    refine lv_iload_n X.1 X.2.1 dX11_put_21 rfl (mz_at hl 3 rfl) ?_
    refine lv_iload_n X.1 X.2.1 dX11_put_22 rfl (mz_at hl 4 rfl) ?_
    refine lv_lload X.1 X.2.1 dX11_put_23 (mz_at hl 5 rfl) ?_
    refine mz_kV0 X hH hS hl.1.1 [.int x2, .int x3, .long j4] [] hr (ct_X6_putCell l g h a1 x2 x3 j4) mb_RX11_380 rfl im_X6_putCell rfl (Nat.le_of_ble_eq_true rfl) ⟨Nat.le_of_ble_eq_true rfl, Nat.le_of_ble_eq_true rfl⟩ hc hs dX11_put_25 rfl (fun _ h H locs cells slots dc ds hr hH hS hc hs => ?_)
    refine lv_iconst (v := 1) X.1 X.2.1 dX11_put_28 (by decide) ?_
    exact mz_iret Y dX11_put_29 hH hS hc hs hr
  · refine mz_aload_n X dX11_put_13 rfl (mz_at hl 1 rfl) ?_
    refine lv_iload X.1 X.2.1 dX11_put_14 (mz_at hl 0 rfl) ?_
    refine mz_kV Value.int X hH hS hl.1.1 [.int v1] [] hr (ct_X11_comeTo l g h a0 v1) mb_RX11_195 rfl im_X11_comeTo rfl (Nat.le_of_ble_eq_true rfl) ⟨Nat.le_of_ble_eq_true rfl, Nat.le_of_ble_eq_true rfl⟩ hc hs dX11_put_16 rfl (fun v2 h H locs cells slots dc ds hr hH hS hc hs => ?_)
    exact mz_iret Y dX11_put_19 hH hS hc hs hr
set_option maxRecDepth 100000 in
theorem ct_X11_put (l : Launch) (g : mz_G) (h : mz_H) (a0 : (Option Nat)) (a1 : (Option Nat)) (x2 : Int32) (x3 : Int32) (j4 : Int64) (r : Int32) (hf : mz_H) (k n : Nat) (hr : fn_X11_put h a0 a1 x2 x3 j4 = some (r, hf, k, n)) : mz_C l g yX11_put cX11_put 7 (some .int) 2 47 [va_rf a0, va_rf a1, .int x2, .int x3, .long j4] h (some (Value.int r)) hf k n := by
  refine mz_met (as := [(false, va_rf a0), (false, va_rf a1), (false, .int x2), (false, .int x3), (true, .long j4)]) (plainFor_of_name (by decide)) (mz_c1 (mz_cat_rf _) (mz_c1 (mz_cat_rf _) (mz_c1 rfl (mz_c1 rfl (mz_c1 rfl mz_c0))))) (Nat.le_of_ble_eq_true rfl) ?_
  intro p e s m args below meth c Y
  exact pf_X11_put_b0 r Y h a0 a1 x2 x3 j4 _ _ hr
theorem dX11_set_0 : decode cX11_set 0 = .ok (.aload_n 0, 1) := by decide +kernel
theorem dX11_set_1 : decode cX11_set 1 = .ok (.iconst 0, 1) := by decide +kernel
theorem dX11_set_2 : decode cX11_set 2 = .ok (.putfield 185, 3) := by decide +kernel
theorem dX11_set_5 : decode cX11_set 5 = .ok (.aload_n 0, 1) := by decide +kernel
theorem dX11_set_6 : decode cX11_set 6 = .ok (.iload_n 1, 1) := by decide +kernel
theorem dX11_set_7 : decode cX11_set 7 = .ok (.iload_n 2, 1) := by decide +kernel
theorem dX11_set_8 : decode cX11_set 8 = .ok (.invokevirtual 226, 3) := by decide +kernel
theorem dX11_set_11 : decode cX11_set 11 = .ok (.astore 7, 2) := by decide +kernel
theorem dX11_set_13 : decode cX11_set 13 = .ok (.aload 7, 2) := by decide +kernel
theorem dX11_set_15 : decode cX11_set 15 = .ok (.ifnonnull 5, 3) := by decide +kernel
theorem dX11_set_18 : decode cX11_set 18 = .ok (.iconst (-1), 1) := by decide +kernel
theorem dX11_set_19 : decode cX11_set 19 = .ok (.ireturn, 1) := by decide +kernel
theorem dX11_set_20 : decode cX11_set 20 = .ok (.aload 7, 2) := by decide +kernel
theorem dX11_set_22 : decode cX11_set 22 = .ok (.getfield 233, 3) := by decide +kernel
theorem dX11_set_25 : decode cX11_set 25 = .ok (.bipush 8, 2) := by decide +kernel
theorem dX11_set_27 : decode cX11_set 27 = .ok (.if_icmp .ne 6, 3) := by decide +kernel
theorem dX11_set_30 : decode cX11_set 30 = .ok (.bipush (-3), 2) := by decide +kernel
theorem dX11_set_32 : decode cX11_set 32 = .ok (.ireturn, 1) := by decide +kernel
theorem dX11_set_33 : decode cX11_set 33 = .ok (.aload_n 0, 1) := by decide +kernel
theorem dX11_set_34 : decode cX11_set 34 = .ok (.aload 7, 2) := by decide +kernel
theorem dX11_set_36 : decode cX11_set 36 = .ok (.iload_n 3, 1) := by decide +kernel
theorem dX11_set_37 : decode cX11_set 37 = .ok (.iload 4, 2) := by decide +kernel
theorem dX11_set_39 : decode cX11_set 39 = .ok (.lload 5, 2) := by decide +kernel
theorem dX11_set_41 : decode cX11_set 41 = .ok (.aload 7, 2) := by decide +kernel
theorem dX11_set_43 : decode cX11_set 43 = .ok (.getfield 233, 3) := by decide +kernel
theorem dX11_set_46 : decode cX11_set 46 = .ok (.invokestatic 277, 3) := by decide +kernel
theorem dX11_set_49 : decode cX11_set 49 = .ok (.invokevirtual 283, 3) := by decide +kernel
theorem dX11_set_52 : decode cX11_set 52 = .ok (.ireturn, 1) := by decide +kernel
def fn_X11_set (h : mz_H) (a0 : (Option Nat)) (x1 : Int32) (x2 : Int32) (x3 : Int32) (x4 : Int32) (j5 : Int64) : mz_Res Int32 :=
  mz_op (mz_pF h a0 10 8 (Value.int 0)) fun h =>
  mz_chk (mz_is h a0 10) <| mz_call (fn_X11_slotOf h a0 x1 x2) fun v1 h =>
  if v1 = none then
    mz_ret (-1) h
  else
    mz_op (mz_fI h v1 5 1) fun v2 =>
    if v2 = 8 then
      mz_ret (-3) h
    else
      mz_op (mz_fI h v1 5 1) fun v3 =>
      mz_call (fn_X3_become h j5 v3) fun v4 h =>
      mz_chk (mz_is h a0 10) <| mz_call (fn_X11_put h a0 v1 x3 x4 v4) fun v5 h =>
      mz_ret v5 h
set_option maxHeartbeats 4000000 in
set_option maxRecDepth 100000 in
theorem pf_X11_set_b0 (r : Int32) (Y : mz_Y p g RX11 cX11_set 8 (some .int) "set" (mz_AF h0) s m args meth c) (h : mz_H) (a0 : (Option Nat)) (x1 : Int32) (x2 : Int32) (x3 : Int32) (x4 : Int32) (j5 : Int64) (dc ds : Nat) (hr : fn_X11_set h a0 x1 x2 x3 x4 j5 = some (r, hf, dc, ds)) : mz_Go l g p e s m args below meth c 5 123 DC DS h0 (some (Value.int r)) hf 8 0 [(0, false, va_rf a0), (1, false, .int x1), (2, false, .int x2), (3, false, .int x3), (4, false, .int x4), (5, true, .long j5)] [] h dc ds := by
  unfold fn_X11_set at hr
  intro H locs cells slots ls hH hS hl hc hs
  have X := Y.1
  refine mz_aload_n X dX11_set_0 rfl (mz_at hl 0 rfl) ?_
  refine lv_iconst (v := 0) X.1 X.2.1 dX11_set_1 (by decide) ?_
  refine mz_put X hH hS fp_RX11_185 dX11_set_2 rfl rfl hr (fun h H locs hr hH hS => ?_)
  refine mz_aload_n X dX11_set_5 rfl (mz_at hl 0 rfl) ?_
  refine lv_iload_n X.1 X.2.1 dX11_set_6 rfl (mz_at hl 1 rfl) ?_
  refine lv_iload_n X.1 X.2.1 dX11_set_7 rfl (mz_at hl 2 rfl) ?_
  refine mz_kV va_rf X hH hS hl.1.1 [.int x1, .int x2] [] hr (ct_X11_slotOf l g h a0 x1 x2) mb_RX11_226 rfl im_X11_slotOf rfl (Nat.le_of_ble_eq_true rfl) ⟨Nat.le_of_ble_eq_true rfl, Nat.le_of_ble_eq_true rfl⟩ hc hs dX11_set_8 rfl (fun v1 h H locs cells slots dc ds hr hH hS hc hs => ?_)
  refine mz_astore X [(7, false, va_rf v1), (0, false, va_rf a0), (1, false, .int x1), (2, false, .int x2), (3, false, .int x3), (4, false, .int x4), (5, true, .long j5)] dX11_set_11 hl (by decide) rfl (fun ls hl => ?_)
  refine mz_aload X dX11_set_13 (mz_at hl 0 rfl) ?_
  refine mz_ifnonnull X 20 dX11_set_15 (by decide) hr (fun hr => ?_) (fun hr => ?_)
  · refine mz_aload X dX11_set_20 (mz_at hl 0 rfl) ?_
    refine mz_getI X hH fl_RX11_233 dX11_set_22 hr (fun v2 hr => ?_)
    refine lv_bipush (v := 8) X.1 X.2.1 dX11_set_25 (by decide) ?_
    refine mz_icmp_ne X 33 dX11_set_27 (by decide) hr (fun hr => ?_) (fun hr => ?_)
    · refine mz_aload_n X dX11_set_33 rfl (mz_at hl 1 rfl) ?_
      refine mz_aload X dX11_set_34 (mz_at hl 0 rfl) ?_
      refine lv_iload_n X.1 X.2.1 dX11_set_36 rfl (mz_at hl 4 rfl) ?_
      refine lv_iload X.1 X.2.1 dX11_set_37 (mz_at hl 5 rfl) ?_
      refine lv_lload X.1 X.2.1 dX11_set_39 (mz_at hl 6 rfl) ?_
      refine mz_aload X dX11_set_41 (mz_at hl 0 rfl) ?_
      refine mz_getI X hH fl_RX11_233 dX11_set_43 hr (fun v3 hr => ?_)
      refine mz_kS Value.long X hH hS hl.1.1 [.long j5, .int v3] [.int x4, .int x3, va_rf v1, va_rf a0] hr (ct_X3_become l g h j5 v3) mb_RX11_277 im_X3_become rfl (Nat.le_of_ble_eq_true rfl) ⟨Nat.le_of_ble_eq_true rfl, Nat.le_of_ble_eq_true rfl⟩ hc hs dX11_set_46 rfl (fun v4 h H locs cells slots dc ds hr hH hS hc hs => ?_)
      refine mz_kV Value.int X hH hS hl.1.1 [va_rf v1, .int x3, .int x4, .long v4] [] hr (ct_X11_put l g h a0 v1 x3 x4 v4) mb_RX11_283 rfl im_X11_put rfl (Nat.le_of_ble_eq_true rfl) ⟨Nat.le_of_ble_eq_true rfl, Nat.le_of_ble_eq_true rfl⟩ hc hs dX11_set_49 rfl (fun v5 h H locs cells slots dc ds hr hH hS hc hs => ?_)
      exact mz_iret Y dX11_set_52 hH hS hc hs hr
    · refine lv_bipush (v := (-3)) X.1 X.2.1 dX11_set_30 (by decide) ?_
      exact mz_iret Y dX11_set_32 hH hS hc hs hr
  · refine lv_iconst (v := (-1)) X.1 X.2.1 dX11_set_18 (by decide) ?_
    exact mz_iret Y dX11_set_19 hH hS hc hs hr
set_option maxRecDepth 100000 in
theorem ct_X11_set (l : Launch) (g : mz_G) (h : mz_H) (a0 : (Option Nat)) (x1 : Int32) (x2 : Int32) (x3 : Int32) (x4 : Int32) (j5 : Int64) (r : Int32) (hf : mz_H) (k n : Nat) (hr : fn_X11_set h a0 x1 x2 x3 x4 j5 = some (r, hf, k, n)) : mz_C l g yX11_set cX11_set 8 (some .int) 5 123 [va_rf a0, .int x1, .int x2, .int x3, .int x4, .long j5] h (some (Value.int r)) hf k n := by
  refine mz_met (as := [(false, va_rf a0), (false, .int x1), (false, .int x2), (false, .int x3), (false, .int x4), (true, .long j5)]) (plainFor_of_name (by decide)) (mz_c1 (mz_cat_rf _) (mz_c1 rfl (mz_c1 rfl (mz_c1 rfl (mz_c1 rfl (mz_c1 rfl mz_c0)))))) (Nat.le_of_ble_eq_true rfl) ?_
  intro p e s m args below meth c Y
  exact pf_X11_set_b0 r Y h a0 x1 x2 x3 x4 j5 _ _ hr
theorem dX11_link_0 : decode cX11_link 0 = .ok (.aload_n 0, 1) := by decide +kernel
theorem dX11_link_1 : decode cX11_link 1 = .ok (.iconst 0, 1) := by decide +kernel
theorem dX11_link_2 : decode cX11_link 2 = .ok (.putfield 185, 3) := by decide +kernel
theorem dX11_link_5 : decode cX11_link 5 = .ok (.aload_n 0, 1) := by decide +kernel
theorem dX11_link_6 : decode cX11_link 6 = .ok (.iload_n 1, 1) := by decide +kernel
theorem dX11_link_7 : decode cX11_link 7 = .ok (.iload_n 2, 1) := by decide +kernel
theorem dX11_link_8 : decode cX11_link 8 = .ok (.invokevirtual 226, 3) := by decide +kernel
theorem dX11_link_11 : decode cX11_link 11 = .ok (.astore 6, 2) := by decide +kernel
theorem dX11_link_13 : decode cX11_link 13 = .ok (.aload 6, 2) := by decide +kernel
theorem dX11_link_15 : decode cX11_link 15 = .ok (.ifnull 19, 3) := by decide +kernel
theorem dX11_link_18 : decode cX11_link 18 = .ok (.iload 5, 2) := by decide +kernel
theorem dX11_link_20 : decode cX11_link 20 = .ok (.bipush (-9), 2) := by decide +kernel
theorem dX11_link_22 : decode cX11_link 22 = .ok (.if_icmp .eq 14, 3) := by decide +kernel
theorem dX11_link_25 : decode cX11_link 25 = .ok (.aload_n 0, 1) := by decide +kernel
theorem dX11_link_26 : decode cX11_link 26 = .ok (.iload 5, 2) := by decide +kernel
theorem dX11_link_28 : decode cX11_link 28 = .ok (.invokevirtual 212, 3) := by decide +kernel
theorem dX11_link_31 : decode cX11_link 31 = .ok (.ifnonnull 5, 3) := by decide +kernel
theorem dX11_link_34 : decode cX11_link 34 = .ok (.iconst (-1), 1) := by decide +kernel
theorem dX11_link_35 : decode cX11_link 35 = .ok (.ireturn, 1) := by decide +kernel
theorem dX11_link_36 : decode cX11_link 36 = .ok (.aload 6, 2) := by decide +kernel
theorem dX11_link_38 : decode cX11_link 38 = .ok (.getfield 233, 3) := by decide +kernel
theorem dX11_link_41 : decode cX11_link 41 = .ok (.bipush 8, 2) := by decide +kernel
theorem dX11_link_43 : decode cX11_link 43 = .ok (.if_icmp .eq 6, 3) := by decide +kernel
theorem dX11_link_46 : decode cX11_link 46 = .ok (.bipush (-3), 2) := by decide +kernel
theorem dX11_link_48 : decode cX11_link 48 = .ok (.ireturn, 1) := by decide +kernel
theorem dX11_link_49 : decode cX11_link 49 = .ok (.aload_n 0, 1) := by decide +kernel
theorem dX11_link_50 : decode cX11_link 50 = .ok (.aload 6, 2) := by decide +kernel
theorem dX11_link_52 : decode cX11_link 52 = .ok (.iload_n 3, 1) := by decide +kernel
theorem dX11_link_53 : decode cX11_link 53 = .ok (.iload 4, 2) := by decide +kernel
theorem dX11_link_55 : decode cX11_link 55 = .ok (.iload 5, 2) := by decide +kernel
theorem dX11_link_57 : decode cX11_link 57 = .ok (.i2l, 1) := by decide +kernel
theorem dX11_link_58 : decode cX11_link 58 = .ok (.invokevirtual 283, 3) := by decide +kernel
theorem dX11_link_61 : decode cX11_link 61 = .ok (.ireturn, 1) := by decide +kernel
def fn_X11_link_b36 (h : mz_H) (a0 : (Option Nat)) (x3 : Int32) (x4 : Int32) (x5 : Int32) (a6 : (Option Nat)) : mz_Res Int32 :=
  mz_op (mz_fI h a6 5 1) fun v1 =>
  if v1 = 8 then
    mz_chk (mz_is h a0 10) <| mz_call (fn_X11_put h a0 a6 x3 x4 ((x5 : Int32).toInt64)) fun v2 h =>
    mz_ret v2 h
  else
    mz_ret (-3) h
set_option maxHeartbeats 4000000 in
set_option maxRecDepth 100000 in
theorem pf_X11_link_b36 (r : Int32) (Y : mz_Y p g RX11 cX11_link 7 (some .int) "link" (mz_AF h0) s m args meth c) (h : mz_H) (a0 : (Option Nat)) (x3 : Int32) (x4 : Int32) (x5 : Int32) (a6 : (Option Nat)) (dc ds : Nat) (hr : fn_X11_link_b36 h a0 x3 x4 x5 a6 = some (r, hf, dc, ds)) : mz_Go l g p e s m args below meth c 3 73 DC DS h0 (some (Value.int r)) hf 7 36 [(0, false, va_rf a0), (3, false, .int x3), (4, false, .int x4), (5, false, .int x5), (6, false, va_rf a6)] [] h dc ds := by
  unfold fn_X11_link_b36 at hr
  intro H locs cells slots ls hH hS hl hc hs
  have X := Y.1
  refine mz_aload X dX11_link_36 (mz_at hl 4 rfl) ?_
  refine mz_getI X hH fl_RX11_233 dX11_link_38 hr (fun v1 hr => ?_)
  refine lv_bipush (v := 8) X.1 X.2.1 dX11_link_41 (by decide) ?_
  refine mz_icmp_eq X 49 dX11_link_43 (by decide) hr (fun hr => ?_) (fun hr => ?_)
  · refine mz_aload_n X dX11_link_49 rfl (mz_at hl 0 rfl) ?_
    refine mz_aload X dX11_link_50 (mz_at hl 4 rfl) ?_
    refine lv_iload_n X.1 X.2.1 dX11_link_52 rfl (mz_at hl 1 rfl) ?_
    refine lv_iload X.1 X.2.1 dX11_link_53 (mz_at hl 2 rfl) ?_
    refine lv_iload X.1 X.2.1 dX11_link_55 (mz_at hl 3 rfl) ?_
    refine lv_i2l (v := ((x5 : Int32).toInt64)) X.1 X.2.1 dX11_link_57 rfl ?_
    refine mz_kV Value.int X hH hS hl.1.1 [va_rf a6, .int x3, .int x4, .long ((x5 : Int32).toInt64)] [] hr (ct_X11_put l g h a0 a6 x3 x4 ((x5 : Int32).toInt64)) mb_RX11_283 rfl im_X11_put rfl (Nat.le_of_ble_eq_true rfl) ⟨Nat.le_of_ble_eq_true rfl, Nat.le_of_ble_eq_true rfl⟩ hc hs dX11_link_58 rfl (fun v2 h H locs cells slots dc ds hr hH hS hc hs => ?_)
    exact mz_iret Y dX11_link_61 hH hS hc hs hr
  · refine lv_bipush (v := (-3)) X.1 X.2.1 dX11_link_46 (by decide) ?_
    exact mz_iret Y dX11_link_48 hH hS hc hs hr
def fn_X11_link (h : mz_H) (a0 : (Option Nat)) (x1 : Int32) (x2 : Int32) (x3 : Int32) (x4 : Int32) (x5 : Int32) : mz_Res Int32 :=
  mz_op (mz_pF h a0 10 8 (Value.int 0)) fun h =>
  mz_chk (mz_is h a0 10) <| mz_call (fn_X11_slotOf h a0 x1 x2) fun v1 h =>
  if v1 = none then
    mz_ret (-1) h
  else
    if x5 = (-9) then
      fn_X11_link_b36 h a0 x3 x4 x5 v1
    else
      mz_chk (mz_is h a0 10) <| mz_call (fn_X11_thingOf h a0 x5) fun v2 h =>
      if v2 = none then
        mz_ret (-1) h
      else
        fn_X11_link_b36 h a0 x3 x4 x5 v1
set_option maxHeartbeats 4000000 in
set_option maxRecDepth 100000 in
theorem pf_X11_link_b0 (r : Int32) (Y : mz_Y p g RX11 cX11_link 7 (some .int) "link" (mz_AF h0) s m args meth c) (h : mz_H) (a0 : (Option Nat)) (x1 : Int32) (x2 : Int32) (x3 : Int32) (x4 : Int32) (x5 : Int32) (dc ds : Nat) (hr : fn_X11_link h a0 x1 x2 x3 x4 x5 = some (r, hf, dc, ds)) : mz_Go l g p e s m args below meth c 3 73 DC DS h0 (some (Value.int r)) hf 7 0 [(0, false, va_rf a0), (1, false, .int x1), (2, false, .int x2), (3, false, .int x3), (4, false, .int x4), (5, false, .int x5)] [] h dc ds := by
  unfold fn_X11_link at hr
  intro H locs cells slots ls hH hS hl hc hs
  have X := Y.1
  refine mz_aload_n X dX11_link_0 rfl (mz_at hl 0 rfl) ?_
  refine lv_iconst (v := 0) X.1 X.2.1 dX11_link_1 (by decide) ?_
  refine mz_put X hH hS fp_RX11_185 dX11_link_2 rfl rfl hr (fun h H locs hr hH hS => ?_)
  refine mz_aload_n X dX11_link_5 rfl (mz_at hl 0 rfl) ?_
  refine lv_iload_n X.1 X.2.1 dX11_link_6 rfl (mz_at hl 1 rfl) ?_
  refine lv_iload_n X.1 X.2.1 dX11_link_7 rfl (mz_at hl 2 rfl) ?_
  refine mz_kV va_rf X hH hS hl.1.1 [.int x1, .int x2] [] hr (ct_X11_slotOf l g h a0 x1 x2) mb_RX11_226 rfl im_X11_slotOf rfl (Nat.le_of_ble_eq_true rfl) ⟨Nat.le_of_ble_eq_true rfl, Nat.le_of_ble_eq_true rfl⟩ hc hs dX11_link_8 rfl (fun v1 h H locs cells slots dc ds hr hH hS hc hs => ?_)
  refine mz_astore X [(6, false, va_rf v1), (0, false, va_rf a0), (1, false, .int x1), (2, false, .int x2), (3, false, .int x3), (4, false, .int x4), (5, false, .int x5)] dX11_link_11 hl (by decide) rfl (fun ls hl => ?_)
  refine mz_aload X dX11_link_13 (mz_at hl 0 rfl) ?_
  refine mz_ifnull X 34 dX11_link_15 (by decide) hr (fun hr => ?_) (fun hr => ?_)
  · refine lv_iconst (v := (-1)) X.1 X.2.1 dX11_link_34 (by decide) ?_
    exact mz_iret Y dX11_link_35 hH hS hc hs hr
  · refine lv_iload X.1 X.2.1 dX11_link_18 (mz_at hl 6 rfl) ?_
    refine lv_bipush (v := (-9)) X.1 X.2.1 dX11_link_20 (by decide) ?_
    refine mz_icmp_eq X 36 dX11_link_22 (by decide) hr (fun hr => ?_) (fun hr => ?_)
    · exact pf_X11_link_b36 r Y h a0 x3 x4 x5 v1 _ _ hr H locs cells slots ls hH hS (mz_sub hl [1, 4, 5, 6, 0] rfl) hc hs
    · refine mz_aload_n X dX11_link_25 rfl (mz_at hl 1 rfl) ?_
      refine lv_iload X.1 X.2.1 dX11_link_26 (mz_at hl 6 rfl) ?_
      refine mz_kV va_rf X hH hS hl.1.1 [.int x5] [] hr (ct_X11_thingOf l g h a0 x5) mb_RX11_212 rfl im_X11_thingOf rfl (Nat.le_of_ble_eq_true rfl) ⟨Nat.le_of_ble_eq_true rfl, Nat.le_of_ble_eq_true rfl⟩ hc hs dX11_link_28 rfl (fun v2 h H locs cells slots dc ds hr hH hS hc hs => ?_)
      refine mz_ifnonnull X 36 dX11_link_31 (by decide) hr (fun hr => ?_) (fun hr => ?_)
      · exact pf_X11_link_b36 r Y h a0 x3 x4 x5 v1 _ _ hr H locs cells slots ls hH hS (mz_sub hl [1, 4, 5, 6, 0] rfl) hc hs
      · refine lv_iconst (v := (-1)) X.1 X.2.1 dX11_link_34 (by decide) ?_
        exact mz_iret Y dX11_link_35 hH hS hc hs hr
set_option maxRecDepth 100000 in
theorem ct_X11_link (l : Launch) (g : mz_G) (h : mz_H) (a0 : (Option Nat)) (x1 : Int32) (x2 : Int32) (x3 : Int32) (x4 : Int32) (x5 : Int32) (r : Int32) (hf : mz_H) (k n : Nat) (hr : fn_X11_link h a0 x1 x2 x3 x4 x5 = some (r, hf, k, n)) : mz_C l g yX11_link cX11_link 7 (some .int) 3 73 [va_rf a0, .int x1, .int x2, .int x3, .int x4, .int x5] h (some (Value.int r)) hf k n := by
  refine mz_met (as := [(false, va_rf a0), (false, .int x1), (false, .int x2), (false, .int x3), (false, .int x4), (false, .int x5)]) (plainFor_of_name (by decide)) (mz_c1 (mz_cat_rf _) (mz_c1 rfl (mz_c1 rfl (mz_c1 rfl (mz_c1 rfl (mz_c1 rfl mz_c0)))))) (Nat.le_of_ble_eq_true rfl) ?_
  intro p e s m args below meth c Y
  exact pf_X11_link_b0 r Y h a0 x1 x2 x3 x4 x5 _ _ hr
theorem dX11_faultOfRow_0 : decode cX11_faultOfRow 0 = .ok (.aload_n 0, 1) := by decide +kernel
theorem dX11_faultOfRow_1 : decode cX11_faultOfRow 1 = .ok (.invokevirtual 248, 3) := by decide +kernel
theorem dX11_faultOfRow_4 : decode cX11_faultOfRow 4 = .ok (.ifCond .eq 5, 3) := by decide +kernel
theorem dX11_faultOfRow_7 : decode cX11_faultOfRow 7 = .ok (.iconst 1, 1) := by decide +kernel
theorem dX11_faultOfRow_8 : decode cX11_faultOfRow 8 = .ok (.ireturn, 1) := by decide +kernel
theorem dX11_faultOfRow_9 : decode cX11_faultOfRow 9 = .ok (.aload_n 0, 1) := by decide +kernel
theorem dX11_faultOfRow_10 : decode cX11_faultOfRow 10 = .ok (.getfield 234, 3) := by decide +kernel
theorem dX11_faultOfRow_13 : decode cX11_faultOfRow 13 = .ok (.iconst 2, 1) := by decide +kernel
theorem dX11_faultOfRow_14 : decode cX11_faultOfRow 14 = .ok (.if_icmp .eq 11, 3) := by decide +kernel
theorem dX11_faultOfRow_17 : decode cX11_faultOfRow 17 = .ok (.aload_n 0, 1) := by decide +kernel
theorem dX11_faultOfRow_18 : decode cX11_faultOfRow 18 = .ok (.getfield 233, 3) := by decide +kernel
theorem dX11_faultOfRow_21 : decode cX11_faultOfRow 21 = .ok (.iload_n 1, 1) := by decide +kernel
theorem dX11_faultOfRow_22 : decode cX11_faultOfRow 22 = .ok (.if_icmp .eq 7, 3) := by decide +kernel
theorem dX11_faultOfRow_25 : decode cX11_faultOfRow 25 = .ok (.iconst 2, 1) := by decide +kernel
theorem dX11_faultOfRow_26 : decode cX11_faultOfRow 26 = .ok (.goto 4, 3) := by decide +kernel
theorem dX11_faultOfRow_29 : decode cX11_faultOfRow 29 = .ok (.iconst 0, 1) := by decide +kernel
theorem dX11_faultOfRow_30 : decode cX11_faultOfRow 30 = .ok (.ireturn, 1) := by decide +kernel
def fn_X11_faultOfRow_b25 (h : mz_H) : mz_Res Int32 :=
  mz_ret 2 h
set_option maxHeartbeats 4000000 in
set_option maxRecDepth 100000 in
theorem pf_X11_faultOfRow_b25 (r : Int32) (Y : mz_Y p g RX11 cX11_faultOfRow 2 (some .int) "faultOfRow" (mz_AF h0) s m args meth c) (h : mz_H) (dc ds : Nat) (hr : fn_X11_faultOfRow_b25 h = some (r, hf, dc, ds)) : mz_Go l g p e s m args below meth c 1 20 DC DS h0 (some (Value.int r)) hf 2 25 [] [] h dc ds := by
  unfold fn_X11_faultOfRow_b25 at hr
  intro H locs cells slots ls hH hS hl hc hs
  have X := Y.1
  refine lv_iconst (v := 2) X.1 X.2.1 dX11_faultOfRow_25 (by decide) ?_
  refine lv_goto (tgt := 30) X.1 X.2.1 dX11_faultOfRow_26 (by decide) ?_
  exact mz_iret Y dX11_faultOfRow_30 hH hS hc hs hr
def fn_X11_faultOfRow (h : mz_H) (a0 : (Option Nat)) (x1 : Int32) : mz_Res Int32 :=
  mz_chk (mz_is h a0 5) <| mz_call (fn_X6_hasNothing h a0) fun v1 h =>
  if v1 = 0 then
    mz_op (mz_fI h a0 5 2) fun v2 =>
    if v2 = 2 then
      fn_X11_faultOfRow_b25 h
    else
      mz_op (mz_fI h a0 5 1) fun v3 =>
      if v3 = x1 then
        mz_ret 0 h
      else
        fn_X11_faultOfRow_b25 h
  else
    mz_ret 1 h
set_option maxHeartbeats 4000000 in
set_option maxRecDepth 100000 in
theorem pf_X11_faultOfRow_b0 (r : Int32) (Y : mz_Y p g RX11 cX11_faultOfRow 2 (some .int) "faultOfRow" (mz_AF h0) s m args meth c) (h : mz_H) (a0 : (Option Nat)) (x1 : Int32) (dc ds : Nat) (hr : fn_X11_faultOfRow h a0 x1 = some (r, hf, dc, ds)) : mz_Go l g p e s m args below meth c 1 20 DC DS h0 (some (Value.int r)) hf 2 0 [(0, false, va_rf a0), (1, false, .int x1)] [] h dc ds := by
  unfold fn_X11_faultOfRow at hr
  intro H locs cells slots ls hH hS hl hc hs
  have X := Y.1
  refine mz_aload_n X dX11_faultOfRow_0 rfl (mz_at hl 0 rfl) ?_
  refine mz_kV Value.int X hH hS hl.1.1 [] [] hr (ct_X6_hasNothing l g h a0) mb_RX11_248 rfl im_X6_hasNothing rfl (Nat.le_of_ble_eq_true rfl) ⟨Nat.le_of_ble_eq_true rfl, Nat.le_of_ble_eq_true rfl⟩ hc hs dX11_faultOfRow_1 rfl (fun v1 h H locs cells slots dc ds hr hH hS hc hs => ?_)
  refine mz_if_eq X 9 dX11_faultOfRow_4 (by decide) hr (fun hr => ?_) (fun hr => ?_)
  · refine mz_aload_n X dX11_faultOfRow_9 rfl (mz_at hl 0 rfl) ?_
    refine mz_getI X hH fl_RX11_234 dX11_faultOfRow_10 hr (fun v2 hr => ?_)
    refine lv_iconst (v := 2) X.1 X.2.1 dX11_faultOfRow_13 (by decide) ?_
    refine mz_icmp_eq X 25 dX11_faultOfRow_14 (by decide) hr (fun hr => ?_) (fun hr => ?_)
    · exact pf_X11_faultOfRow_b25 r Y h  _ _ hr H locs cells slots ls hH hS (mz_sub hl [] rfl) hc hs
    · refine mz_aload_n X dX11_faultOfRow_17 rfl (mz_at hl 0 rfl) ?_
      refine mz_getI X hH fl_RX11_233 dX11_faultOfRow_18 hr (fun v3 hr => ?_)
      refine lv_iload_n X.1 X.2.1 dX11_faultOfRow_21 rfl (mz_at hl 1 rfl) ?_
      refine mz_icmp_eq X 29 dX11_faultOfRow_22 (by decide) hr (fun hr => ?_) (fun hr => ?_)
      · refine lv_iconst (v := 0) X.1 X.2.1 dX11_faultOfRow_29 (by decide) ?_
        exact mz_iret Y dX11_faultOfRow_30 hH hS hc hs hr
      · exact pf_X11_faultOfRow_b25 r Y h  _ _ hr H locs cells slots ls hH hS (mz_sub hl [] rfl) hc hs
  · refine lv_iconst (v := 1) X.1 X.2.1 dX11_faultOfRow_7 (by decide) ?_
    exact mz_iret Y dX11_faultOfRow_8 hH hS hc hs hr
set_option maxRecDepth 100000 in
theorem ct_X11_faultOfRow (l : Launch) (g : mz_G) (h : mz_H) (a0 : (Option Nat)) (x1 : Int32) (r : Int32) (hf : mz_H) (k n : Nat) (hr : fn_X11_faultOfRow h a0 x1 = some (r, hf, k, n)) : mz_C l g yX11_faultOfRow cX11_faultOfRow 2 (some .int) 1 20 [va_rf a0, .int x1] h (some (Value.int r)) hf k n := by
  refine mz_met (as := [(false, va_rf a0), (false, .int x1)]) (plainFor_of_name (by decide)) (mz_c1 (mz_cat_rf _) (mz_c1 rfl mz_c0)) (Nat.le_of_ble_eq_true rfl) ?_
  intro p e s m args below meth c Y
  exact pf_X11_faultOfRow_b0 r Y h a0 x1 _ _ hr
theorem dX11_as_0 : decode cX11_as 0 = .ok (.aload_n 0, 1) := by decide +kernel
theorem dX11_as_1 : decode cX11_as 1 = .ok (.iconst 0, 1) := by decide +kernel
theorem dX11_as_2 : decode cX11_as 2 = .ok (.putfield 185, 3) := by decide +kernel
theorem dX11_as_5 : decode cX11_as 5 = .ok (.aload_n 0, 1) := by decide +kernel
theorem dX11_as_6 : decode cX11_as 6 = .ok (.iload_n 1, 1) := by decide +kernel
theorem dX11_as_7 : decode cX11_as 7 = .ok (.iload_n 2, 1) := by decide +kernel
theorem dX11_as_8 : decode cX11_as 8 = .ok (.invokevirtual 226, 3) := by decide +kernel
theorem dX11_as_11 : decode cX11_as 11 = .ok (.astore 5, 2) := by decide +kernel
theorem dX11_as_13 : decode cX11_as 13 = .ok (.aload 5, 2) := by decide +kernel
theorem dX11_as_15 : decode cX11_as 15 = .ok (.ifnull 15, 3) := by decide +kernel
theorem dX11_as_18 : decode cX11_as 18 = .ok (.iload 4, 2) := by decide +kernel
theorem dX11_as_20 : decode cX11_as 20 = .ok (.ifCond .lt 10, 3) := by decide +kernel
theorem dX11_as_23 : decode cX11_as 23 = .ok (.iload 4, 2) := by decide +kernel
theorem dX11_as_25 : decode cX11_as 25 = .ok (.bipush 8, 2) := by decide +kernel
theorem dX11_as_27 : decode cX11_as 27 = .ok (.if_icmp .le 5, 3) := by decide +kernel
theorem dX11_as_30 : decode cX11_as 30 = .ok (.lconst 0, 1) := by decide +kernel
theorem dX11_as_31 : decode cX11_as 31 = .ok (.lreturn, 1) := by decide +kernel
theorem dX11_as_32 : decode cX11_as 32 = .ok (.aload 5, 2) := by decide +kernel
theorem dX11_as_34 : decode cX11_as 34 = .ok (.iload 4, 2) := by decide +kernel
theorem dX11_as_36 : decode cX11_as 36 = .ok (.invokestatic 287, 3) := by decide +kernel
theorem dX11_as_39 : decode cX11_as 39 = .ok (.istore 6, 2) := by decide +kernel
theorem dX11_as_41 : decode cX11_as 41 = .ok (.iload 6, 2) := by decide +kernel
theorem dX11_as_43 : decode cX11_as 43 = .ok (.ifCond .ne 12, 3) := by decide +kernel
theorem dX11_as_46 : decode cX11_as 46 = .ok (.aload 5, 2) := by decide +kernel
theorem dX11_as_48 : decode cX11_as 48 = .ok (.iload_n 3, 1) := by decide +kernel
theorem dX11_as_49 : decode cX11_as 49 = .ok (.iconst 0, 1) := by decide +kernel
theorem dX11_as_50 : decode cX11_as 50 = .ok (.invokevirtual 265, 3) := by decide +kernel
theorem dX11_as_53 : decode cX11_as 53 = .ok (.istore 6, 2) := by decide +kernel
theorem dX11_as_55 : decode cX11_as 55 = .ok (.iload 6, 2) := by decide +kernel
theorem dX11_as_57 : decode cX11_as 57 = .ok (.ifCond .ne 13, 3) := by decide +kernel
theorem dX11_as_60 : decode cX11_as 60 = .ok (.aload 5, 2) := by decide +kernel
theorem dX11_as_62 : decode cX11_as 62 = .ok (.iload_n 3, 1) := by decide +kernel
theorem dX11_as_63 : decode cX11_as 63 = .ok (.iconst 0, 1) := by decide +kernel
theorem dX11_as_64 : decode cX11_as 64 = .ok (.invokevirtual 269, 3) := by decide +kernel
theorem dX11_as_67 : decode cX11_as 67 = .ok (.goto 9, 3) := by decide +kernel
theorem dX11_as_70 : decode cX11_as 70 = .ok (.aload_n 0, 1) := by decide +kernel
theorem dX11_as_71 : decode cX11_as 71 = .ok (.iload 6, 2) := by decide +kernel
theorem dX11_as_73 : decode cX11_as 73 = .ok (.invokevirtual 273, 3) := by decide +kernel
theorem dX11_as_76 : decode cX11_as 76 = .ok (.lreturn, 1) := by decide +kernel
def fn_X11_as_b55 (h : mz_H) (a0 : (Option Nat)) (x3 : Int32) (a5 : (Option Nat)) (x6 : Int32) : mz_Res Int64 :=
  if x6 = 0 then
    mz_chk (mz_is h a5 5) <| mz_call (fn_X6_cellAt h a5 x3 0) fun v2 h =>
    mz_ret v2 h
  else
    mz_chk (mz_is h a0 10) <| mz_call (fn_X11_zeroAfter h a0 x6) fun v1 h =>
    mz_ret v1 h
set_option maxHeartbeats 4000000 in
set_option maxRecDepth 100000 in
theorem pf_X11_as_b55 (r : Int64) (Y : mz_Y p g RX11 cX11_as 7 (some .long) "as" (mz_AF h0) s m args meth c) (h : mz_H) (a0 : (Option Nat)) (x3 : Int32) (a5 : (Option Nat)) (x6 : Int32) (dc ds : Nat) (hr : fn_X11_as_b55 h a0 x3 a5 x6 = some (r, hf, dc, ds)) : mz_Go l g p e s m args below meth c 2 45 DC DS h0 (some (Value.long r)) hf 7 55 [(0, false, va_rf a0), (3, false, .int x3), (5, false, va_rf a5), (6, false, .int x6)] [] h dc ds := by
  unfold fn_X11_as_b55 at hr
  intro H locs cells slots ls hH hS hl hc hs
  have X := Y.1
  refine lv_iload X.1 X.2.1 dX11_as_55 (mz_at hl 3 rfl) ?_
  refine mz_if_ne X 70 dX11_as_57 (by decide) hr (fun hr => ?_) (fun hr => ?_)
  · refine mz_aload_n X dX11_as_70 rfl (mz_at hl 0 rfl) ?_
    refine lv_iload X.1 X.2.1 dX11_as_71 (mz_at hl 3 rfl) ?_
    refine mz_kV Value.long X hH hS hl.1.1 [.int x6] [] hr (ct_X11_zeroAfter l g h a0 x6) mb_RX11_273 rfl im_X11_zeroAfter rfl (Nat.le_of_ble_eq_true rfl) ⟨Nat.le_of_ble_eq_true rfl, Nat.le_of_ble_eq_true rfl⟩ hc hs dX11_as_73 rfl (fun v1 h H locs cells slots dc ds hr hH hS hc hs => ?_)
    exact mz_lret Y dX11_as_76 hH hS hc hs hr
  · refine mz_aload X dX11_as_60 (mz_at hl 2 rfl) ?_
    refine lv_iload_n X.1 X.2.1 dX11_as_62 rfl (mz_at hl 1 rfl) ?_
    refine lv_iconst (v := 0) X.1 X.2.1 dX11_as_63 (by decide) ?_
    refine mz_kV Value.long X hH hS hl.1.1 [.int x3, .int 0] [] hr (ct_X6_cellAt l g h a5 x3 0) mb_RX11_269 rfl im_X6_cellAt rfl (Nat.le_of_ble_eq_true rfl) ⟨Nat.le_of_ble_eq_true rfl, Nat.le_of_ble_eq_true rfl⟩ hc hs dX11_as_64 rfl (fun v2 h H locs cells slots dc ds hr hH hS hc hs => ?_)
    refine lv_goto (tgt := 76) X.1 X.2.1 dX11_as_67 (by decide) ?_
    exact mz_lret Y dX11_as_76 hH hS hc hs hr
def fn_X11_as (h : mz_H) (a0 : (Option Nat)) (x1 : Int32) (x2 : Int32) (x3 : Int32) (x4 : Int32) : mz_Res Int64 :=
  mz_op (mz_pF h a0 10 8 (Value.int 0)) fun h =>
  mz_chk (mz_is h a0 10) <| mz_call (fn_X11_slotOf h a0 x1 x2) fun v1 h =>
  if v1 = none then
    mz_ret 0 h
  else
    if x4 < 0 then
      mz_ret 0 h
    else
      if x4 ≤ 8 then
        mz_call (fn_X11_faultOfRow h v1 x4) fun v2 h =>
        if v2 = 0 then
          mz_chk (mz_is h v1 5) <| mz_call (fn_X6_faultAt h v1 x3 0) fun v3 h =>
          fn_X11_as_b55 h a0 x3 v1 v3
        else
          fn_X11_as_b55 h a0 x3 v1 v2
      else
        mz_ret 0 h
set_option maxHeartbeats 4000000 in
set_option maxRecDepth 100000 in
theorem pf_X11_as_b0 (r : Int64) (Y : mz_Y p g RX11 cX11_as 7 (some .long) "as" (mz_AF h0) s m args meth c) (h : mz_H) (a0 : (Option Nat)) (x1 : Int32) (x2 : Int32) (x3 : Int32) (x4 : Int32) (dc ds : Nat) (hr : fn_X11_as h a0 x1 x2 x3 x4 = some (r, hf, dc, ds)) : mz_Go l g p e s m args below meth c 2 45 DC DS h0 (some (Value.long r)) hf 7 0 [(0, false, va_rf a0), (1, false, .int x1), (2, false, .int x2), (3, false, .int x3), (4, false, .int x4)] [] h dc ds := by
  unfold fn_X11_as at hr
  intro H locs cells slots ls hH hS hl hc hs
  have X := Y.1
  refine mz_aload_n X dX11_as_0 rfl (mz_at hl 0 rfl) ?_
  refine lv_iconst (v := 0) X.1 X.2.1 dX11_as_1 (by decide) ?_
  refine mz_put X hH hS fp_RX11_185 dX11_as_2 rfl rfl hr (fun h H locs hr hH hS => ?_)
  refine mz_aload_n X dX11_as_5 rfl (mz_at hl 0 rfl) ?_
  refine lv_iload_n X.1 X.2.1 dX11_as_6 rfl (mz_at hl 1 rfl) ?_
  refine lv_iload_n X.1 X.2.1 dX11_as_7 rfl (mz_at hl 2 rfl) ?_
  refine mz_kV va_rf X hH hS hl.1.1 [.int x1, .int x2] [] hr (ct_X11_slotOf l g h a0 x1 x2) mb_RX11_226 rfl im_X11_slotOf rfl (Nat.le_of_ble_eq_true rfl) ⟨Nat.le_of_ble_eq_true rfl, Nat.le_of_ble_eq_true rfl⟩ hc hs dX11_as_8 rfl (fun v1 h H locs cells slots dc ds hr hH hS hc hs => ?_)
  refine mz_astore X [(5, false, va_rf v1), (0, false, va_rf a0), (1, false, .int x1), (2, false, .int x2), (3, false, .int x3), (4, false, .int x4)] dX11_as_11 hl (by decide) rfl (fun ls hl => ?_)
  refine mz_aload X dX11_as_13 (mz_at hl 0 rfl) ?_
  refine mz_ifnull X 30 dX11_as_15 (by decide) hr (fun hr => ?_) (fun hr => ?_)
  · refine lv_lconst (v := 0) X.1 X.2.1 dX11_as_30 (by decide) ?_
    exact mz_lret Y dX11_as_31 hH hS hc hs hr
  · refine lv_iload X.1 X.2.1 dX11_as_18 (mz_at hl 5 rfl) ?_
    refine mz_if_lt X 30 dX11_as_20 (by decide) hr (fun hr => ?_) (fun hr => ?_)
    · refine lv_lconst (v := 0) X.1 X.2.1 dX11_as_30 (by decide) ?_
      exact mz_lret Y dX11_as_31 hH hS hc hs hr
    · refine lv_iload X.1 X.2.1 dX11_as_23 (mz_at hl 5 rfl) ?_
      refine lv_bipush (v := 8) X.1 X.2.1 dX11_as_25 (by decide) ?_
      refine mz_icmp_le X 32 dX11_as_27 (by decide) hr (fun hr => ?_) (fun hr => ?_)
      · refine mz_aload X dX11_as_32 (mz_at hl 0 rfl) ?_
        refine lv_iload X.1 X.2.1 dX11_as_34 (mz_at hl 5 rfl) ?_
        refine mz_kS Value.int X hH hS hl.1.1 [va_rf v1, .int x4] [] hr (ct_X11_faultOfRow l g h v1 x4) mb_RX11_287 im_X11_faultOfRow rfl (Nat.le_of_ble_eq_true rfl) ⟨Nat.le_of_ble_eq_true rfl, Nat.le_of_ble_eq_true rfl⟩ hc hs dX11_as_36 rfl (fun v2 h H locs cells slots dc ds hr hH hS hc hs => ?_)
        refine mz_istore X [(6, false, .int v2), (5, false, va_rf v1), (0, false, va_rf a0), (1, false, .int x1), (2, false, .int x2), (3, false, .int x3), (4, false, .int x4)] dX11_as_39 hl (by decide) rfl (fun ls hl => ?_)
        refine lv_iload X.1 X.2.1 dX11_as_41 (mz_at hl 0 rfl) ?_
        refine mz_if_ne X 55 dX11_as_43 (by decide) hr (fun hr => ?_) (fun hr => ?_)
        · exact pf_X11_as_b55 r Y h a0 x3 v1 v2 _ _ hr H locs cells slots ls hH hS (mz_sub hl [2, 5, 1, 0] rfl) hc hs
        · refine mz_aload X dX11_as_46 (mz_at hl 1 rfl) ?_
          refine lv_iload_n X.1 X.2.1 dX11_as_48 rfl (mz_at hl 5 rfl) ?_
          refine lv_iconst (v := 0) X.1 X.2.1 dX11_as_49 (by decide) ?_
          refine mz_kV Value.int X hH hS hl.1.1 [.int x3, .int 0] [] hr (ct_X6_faultAt l g h v1 x3 0) mb_RX11_265 rfl im_X6_faultAt rfl (Nat.le_of_ble_eq_true rfl) ⟨Nat.le_of_ble_eq_true rfl, Nat.le_of_ble_eq_true rfl⟩ hc hs dX11_as_50 rfl (fun v3 h H locs cells slots dc ds hr hH hS hc hs => ?_)
          refine mz_istore X [(6, false, .int v3), (5, false, va_rf v1), (0, false, va_rf a0), (1, false, .int x1), (2, false, .int x2), (3, false, .int x3), (4, false, .int x4)] dX11_as_53 hl (by decide) rfl (fun ls hl => ?_)
          exact pf_X11_as_b55 r Y h a0 x3 v1 v3 _ _ hr H locs cells slots ls hH hS (mz_sub hl [2, 5, 1, 0] rfl) hc hs
      · refine lv_lconst (v := 0) X.1 X.2.1 dX11_as_30 (by decide) ?_
        exact mz_lret Y dX11_as_31 hH hS hc hs hr
set_option maxRecDepth 100000 in
theorem ct_X11_as (l : Launch) (g : mz_G) (h : mz_H) (a0 : (Option Nat)) (x1 : Int32) (x2 : Int32) (x3 : Int32) (x4 : Int32) (r : Int64) (hf : mz_H) (k n : Nat) (hr : fn_X11_as h a0 x1 x2 x3 x4 = some (r, hf, k, n)) : mz_C l g yX11_as cX11_as 7 (some .long) 2 45 [va_rf a0, .int x1, .int x2, .int x3, .int x4] h (some (Value.long r)) hf k n := by
  refine mz_met (as := [(false, va_rf a0), (false, .int x1), (false, .int x2), (false, .int x3), (false, .int x4)]) (plainFor_of_name (by decide)) (mz_c1 (mz_cat_rf _) (mz_c1 rfl (mz_c1 rfl (mz_c1 rfl (mz_c1 rfl mz_c0))))) (Nat.le_of_ble_eq_true rfl) ?_
  intro p e s m args below meth c Y
  exact pf_X11_as_b0 r Y h a0 x1 x2 x3 x4 _ _ hr
theorem dX11_wide_0 : decode cX11_wide 0 = .ok (.aload_n 0, 1) := by decide +kernel
theorem dX11_wide_1 : decode cX11_wide 1 = .ok (.iconst 0, 1) := by decide +kernel
theorem dX11_wide_2 : decode cX11_wide 2 = .ok (.putfield 185, 3) := by decide +kernel
theorem dX11_wide_5 : decode cX11_wide 5 = .ok (.aload_n 0, 1) := by decide +kernel
theorem dX11_wide_6 : decode cX11_wide 6 = .ok (.iload_n 1, 1) := by decide +kernel
theorem dX11_wide_7 : decode cX11_wide 7 = .ok (.iload_n 2, 1) := by decide +kernel
theorem dX11_wide_8 : decode cX11_wide 8 = .ok (.invokevirtual 226, 3) := by decide +kernel
theorem dX11_wide_11 : decode cX11_wide 11 = .ok (.astore 5, 2) := by decide +kernel
theorem dX11_wide_13 : decode cX11_wide 13 = .ok (.aload 5, 2) := by decide +kernel
theorem dX11_wide_15 : decode cX11_wide 15 = .ok (.ifnull 11, 3) := by decide +kernel
theorem dX11_wide_18 : decode cX11_wide 18 = .ok (.iload 4, 2) := by decide +kernel
theorem dX11_wide_20 : decode cX11_wide 20 = .ok (.invokestatic 90, 3) := by decide +kernel
theorem dX11_wide_23 : decode cX11_wide 23 = .ok (.ifCond .ne 5, 3) := by decide +kernel
theorem dX11_wide_26 : decode cX11_wide 26 = .ok (.lconst 0, 1) := by decide +kernel
theorem dX11_wide_27 : decode cX11_wide 27 = .ok (.lreturn, 1) := by decide +kernel
theorem dX11_wide_28 : decode cX11_wide 28 = .ok (.aload 5, 2) := by decide +kernel
theorem dX11_wide_30 : decode cX11_wide 30 = .ok (.invokevirtual 248, 3) := by decide +kernel
theorem dX11_wide_33 : decode cX11_wide 33 = .ok (.ifCond .eq 9, 3) := by decide +kernel
theorem dX11_wide_36 : decode cX11_wide 36 = .ok (.aload_n 0, 1) := by decide +kernel
theorem dX11_wide_37 : decode cX11_wide 37 = .ok (.iconst 1, 1) := by decide +kernel
theorem dX11_wide_38 : decode cX11_wide 38 = .ok (.invokevirtual 273, 3) := by decide +kernel
theorem dX11_wide_41 : decode cX11_wide 41 = .ok (.lreturn, 1) := by decide +kernel
theorem dX11_wide_42 : decode cX11_wide 42 = .ok (.aload 5, 2) := by decide +kernel
theorem dX11_wide_44 : decode cX11_wide 44 = .ok (.getfield 234, 3) := by decide +kernel
theorem dX11_wide_47 : decode cX11_wide 47 = .ok (.iconst 2, 1) := by decide +kernel
theorem dX11_wide_48 : decode cX11_wide 48 = .ok (.if_icmp .eq 13, 3) := by decide +kernel
theorem dX11_wide_51 : decode cX11_wide 51 = .ok (.aload 5, 2) := by decide +kernel
theorem dX11_wide_53 : decode cX11_wide 53 = .ok (.getfield 233, 3) := by decide +kernel
theorem dX11_wide_56 : decode cX11_wide 56 = .ok (.bipush 8, 2) := by decide +kernel
theorem dX11_wide_58 : decode cX11_wide 58 = .ok (.if_icmp .ne 10, 3) := by decide +kernel
theorem dX11_wide_61 : decode cX11_wide 61 = .ok (.aload_n 0, 1) := by decide +kernel
theorem dX11_wide_62 : decode cX11_wide 62 = .ok (.bipush 7, 2) := by decide +kernel
theorem dX11_wide_64 : decode cX11_wide 64 = .ok (.invokevirtual 273, 3) := by decide +kernel
theorem dX11_wide_67 : decode cX11_wide 67 = .ok (.lreturn, 1) := by decide +kernel
theorem dX11_wide_68 : decode cX11_wide 68 = .ok (.aload 5, 2) := by decide +kernel
theorem dX11_wide_70 : decode cX11_wide 70 = .ok (.iload_n 3, 1) := by decide +kernel
theorem dX11_wide_71 : decode cX11_wide 71 = .ok (.iconst 0, 1) := by decide +kernel
theorem dX11_wide_72 : decode cX11_wide 72 = .ok (.invokevirtual 265, 3) := by decide +kernel
theorem dX11_wide_75 : decode cX11_wide 75 = .ok (.istore 6, 2) := by decide +kernel
theorem dX11_wide_77 : decode cX11_wide 77 = .ok (.iload 6, 2) := by decide +kernel
theorem dX11_wide_79 : decode cX11_wide 79 = .ok (.ifCond .eq 10, 3) := by decide +kernel
theorem dX11_wide_82 : decode cX11_wide 82 = .ok (.aload_n 0, 1) := by decide +kernel
theorem dX11_wide_83 : decode cX11_wide 83 = .ok (.iload 6, 2) := by decide +kernel
theorem dX11_wide_85 : decode cX11_wide 85 = .ok (.invokevirtual 273, 3) := by decide +kernel
theorem dX11_wide_88 : decode cX11_wide 88 = .ok (.lreturn, 1) := by decide +kernel
theorem dX11_wide_89 : decode cX11_wide 89 = .ok (.aload 5, 2) := by decide +kernel
theorem dX11_wide_91 : decode cX11_wide 91 = .ok (.getfield 233, 3) := by decide +kernel
theorem dX11_wide_94 : decode cX11_wide 94 = .ok (.iload 4, 2) := by decide +kernel
theorem dX11_wide_96 : decode cX11_wide 96 = .ok (.invokestatic 291, 3) := by decide +kernel
theorem dX11_wide_99 : decode cX11_wide 99 = .ok (.ifCond .ne 10, 3) := by decide +kernel
theorem dX11_wide_102 : decode cX11_wide 102 = .ok (.aload_n 0, 1) := by decide +kernel
theorem dX11_wide_103 : decode cX11_wide 103 = .ok (.bipush 7, 2) := by decide +kernel
theorem dX11_wide_105 : decode cX11_wide 105 = .ok (.invokevirtual 273, 3) := by decide +kernel
theorem dX11_wide_108 : decode cX11_wide 108 = .ok (.lreturn, 1) := by decide +kernel
theorem dX11_wide_109 : decode cX11_wide 109 = .ok (.aload 5, 2) := by decide +kernel
theorem dX11_wide_111 : decode cX11_wide 111 = .ok (.iload_n 3, 1) := by decide +kernel
theorem dX11_wide_112 : decode cX11_wide 112 = .ok (.iconst 0, 1) := by decide +kernel
theorem dX11_wide_113 : decode cX11_wide 113 = .ok (.invokevirtual 269, 3) := by decide +kernel
theorem dX11_wide_116 : decode cX11_wide 116 = .ok (.aload 5, 2) := by decide +kernel
theorem dX11_wide_118 : decode cX11_wide 118 = .ok (.getfield 233, 3) := by decide +kernel
theorem dX11_wide_121 : decode cX11_wide 121 = .ok (.iload 4, 2) := by decide +kernel
theorem dX11_wide_123 : decode cX11_wide 123 = .ok (.invokestatic 294, 3) := by decide +kernel
theorem dX11_wide_126 : decode cX11_wide 126 = .ok (.lreturn, 1) := by decide +kernel
def fn_X11_wide_b61 (h : mz_H) (a0 : (Option Nat)) : mz_Res Int64 :=
  mz_chk (mz_is h a0 10) <| mz_call (fn_X11_zeroAfter h a0 7) fun v1 h =>
  mz_ret v1 h
set_option maxHeartbeats 4000000 in
set_option maxRecDepth 100000 in
theorem pf_X11_wide_b61 (r : Int64) (Y : mz_Y p g RX11 cX11_wide 7 (some .long) "wide" (mz_AF h0) s m args meth c) (h : mz_H) (a0 : (Option Nat)) (dc ds : Nat) (hr : fn_X11_wide_b61 h a0 = some (r, hf, dc, ds)) : mz_Go l g p e s m args below meth c 5 126 DC DS h0 (some (Value.long r)) hf 7 61 [(0, false, va_rf a0)] [] h dc ds := by
  unfold fn_X11_wide_b61 at hr
  intro H locs cells slots ls hH hS hl hc hs
  have X := Y.1
  refine mz_aload_n X dX11_wide_61 rfl (mz_at hl 0 rfl) ?_
  refine lv_bipush (v := 7) X.1 X.2.1 dX11_wide_62 (by decide) ?_
  refine mz_kV Value.long X hH hS hl.1.1 [.int 7] [] hr (ct_X11_zeroAfter l g h a0 7) mb_RX11_273 rfl im_X11_zeroAfter rfl (Nat.le_of_ble_eq_true rfl) ⟨Nat.le_of_ble_eq_true rfl, Nat.le_of_ble_eq_true rfl⟩ hc hs dX11_wide_64 rfl (fun v1 h H locs cells slots dc ds hr hH hS hc hs => ?_)
  exact mz_lret Y dX11_wide_67 hH hS hc hs hr
def fn_X11_wide (h : mz_H) (a0 : (Option Nat)) (x1 : Int32) (x2 : Int32) (x3 : Int32) (x4 : Int32) : mz_Res Int64 :=
  mz_op (mz_pF h a0 10 8 (Value.int 0)) fun h =>
  mz_chk (mz_is h a0 10) <| mz_call (fn_X11_slotOf h a0 x1 x2) fun v1 h =>
  if v1 = none then
    mz_ret 0 h
  else
    mz_call (fn_X11_isNumberLane h x4) fun v2 h =>
    if v2 = 0 then
      mz_ret 0 h
    else
      mz_chk (mz_is h v1 5) <| mz_call (fn_X6_hasNothing h v1) fun v3 h =>
      if v3 = 0 then
        mz_op (mz_fI h v1 5 2) fun v4 =>
        if v4 = 2 then
          fn_X11_wide_b61 h a0
        else
          mz_op (mz_fI h v1 5 1) fun v5 =>
          if v5 = 8 then
            fn_X11_wide_b61 h a0
          else
            mz_chk (mz_is h v1 5) <| mz_call (fn_X6_faultAt h v1 x3 0) fun v6 h =>
            if v6 = 0 then
              mz_op (mz_fI h v1 5 1) fun v7 =>
              mz_call (fn_X3_widens h v7 x4) fun v8 h =>
              if v8 = 0 then
                mz_chk (mz_is h a0 10) <| mz_call (fn_X11_zeroAfter h a0 7) fun v12 h =>
                mz_ret v12 h
              else
                mz_chk (mz_is h v1 5) <| mz_call (fn_X6_cellAt h v1 x3 0) fun v9 h =>
                mz_op (mz_fI h v1 5 1) fun v10 =>
                mz_call (fn_X3_widened h v9 v10 x4) fun v11 h =>
                mz_ret v11 h
            else
              mz_chk (mz_is h a0 10) <| mz_call (fn_X11_zeroAfter h a0 v6) fun v13 h =>
              mz_ret v13 h
      else
        mz_chk (mz_is h a0 10) <| mz_call (fn_X11_zeroAfter h a0 1) fun v14 h =>
        mz_ret v14 h
set_option maxHeartbeats 4000000 in
set_option maxRecDepth 100000 in
theorem pf_X11_wide_b0 (r : Int64) (Y : mz_Y p g RX11 cX11_wide 7 (some .long) "wide" (mz_AF h0) s m args meth c) (h : mz_H) (a0 : (Option Nat)) (x1 : Int32) (x2 : Int32) (x3 : Int32) (x4 : Int32) (dc ds : Nat) (hr : fn_X11_wide h a0 x1 x2 x3 x4 = some (r, hf, dc, ds)) : mz_Go l g p e s m args below meth c 5 126 DC DS h0 (some (Value.long r)) hf 7 0 [(0, false, va_rf a0), (1, false, .int x1), (2, false, .int x2), (3, false, .int x3), (4, false, .int x4)] [] h dc ds := by
  unfold fn_X11_wide at hr
  intro H locs cells slots ls hH hS hl hc hs
  have X := Y.1
  refine mz_aload_n X dX11_wide_0 rfl (mz_at hl 0 rfl) ?_
  refine lv_iconst (v := 0) X.1 X.2.1 dX11_wide_1 (by decide) ?_
  refine mz_put X hH hS fp_RX11_185 dX11_wide_2 rfl rfl hr (fun h H locs hr hH hS => ?_)
  refine mz_aload_n X dX11_wide_5 rfl (mz_at hl 0 rfl) ?_
  refine lv_iload_n X.1 X.2.1 dX11_wide_6 rfl (mz_at hl 1 rfl) ?_
  refine lv_iload_n X.1 X.2.1 dX11_wide_7 rfl (mz_at hl 2 rfl) ?_
  refine mz_kV va_rf X hH hS hl.1.1 [.int x1, .int x2] [] hr (ct_X11_slotOf l g h a0 x1 x2) mb_RX11_226 rfl im_X11_slotOf rfl (Nat.le_of_ble_eq_true rfl) ⟨Nat.le_of_ble_eq_true rfl, Nat.le_of_ble_eq_true rfl⟩ hc hs dX11_wide_8 rfl (fun v1 h H locs cells slots dc ds hr hH hS hc hs => ?_)
  refine mz_astore X [(5, false, va_rf v1), (0, false, va_rf a0), (1, false, .int x1), (2, false, .int x2), (3, false, .int x3), (4, false, .int x4)] dX11_wide_11 hl (by decide) rfl (fun ls hl => ?_)
  refine mz_aload X dX11_wide_13 (mz_at hl 0 rfl) ?_
  refine mz_ifnull X 26 dX11_wide_15 (by decide) hr (fun hr => ?_) (fun hr => ?_)
  · refine lv_lconst (v := 0) X.1 X.2.1 dX11_wide_26 (by decide) ?_
    exact mz_lret Y dX11_wide_27 hH hS hc hs hr
  · refine lv_iload X.1 X.2.1 dX11_wide_18 (mz_at hl 5 rfl) ?_
    refine mz_kS Value.int X hH hS hl.1.1 [.int x4] [] hr (ct_X11_isNumberLane l g h x4) mb_RX11_90 im_X11_isNumberLane rfl (Nat.le_of_ble_eq_true rfl) ⟨Nat.le_of_ble_eq_true rfl, Nat.le_of_ble_eq_true rfl⟩ hc hs dX11_wide_20 rfl (fun v2 h H locs cells slots dc ds hr hH hS hc hs => ?_)
    refine mz_if_ne X 28 dX11_wide_23 (by decide) hr (fun hr => ?_) (fun hr => ?_)
    · refine mz_aload X dX11_wide_28 (mz_at hl 0 rfl) ?_
      refine mz_kV Value.int X hH hS hl.1.1 [] [] hr (ct_X6_hasNothing l g h v1) mb_RX11_248 rfl im_X6_hasNothing rfl (Nat.le_of_ble_eq_true rfl) ⟨Nat.le_of_ble_eq_true rfl, Nat.le_of_ble_eq_true rfl⟩ hc hs dX11_wide_30 rfl (fun v3 h H locs cells slots dc ds hr hH hS hc hs => ?_)
      refine mz_if_eq X 42 dX11_wide_33 (by decide) hr (fun hr => ?_) (fun hr => ?_)
      · refine mz_aload X dX11_wide_42 (mz_at hl 0 rfl) ?_
        refine mz_getI X hH fl_RX11_234 dX11_wide_44 hr (fun v4 hr => ?_)
        refine lv_iconst (v := 2) X.1 X.2.1 dX11_wide_47 (by decide) ?_
        refine mz_icmp_eq X 61 dX11_wide_48 (by decide) hr (fun hr => ?_) (fun hr => ?_)
        · exact pf_X11_wide_b61 r Y h a0 _ _ hr H locs cells slots ls hH hS (mz_sub hl [1] rfl) hc hs
        · refine mz_aload X dX11_wide_51 (mz_at hl 0 rfl) ?_
          refine mz_getI X hH fl_RX11_233 dX11_wide_53 hr (fun v5 hr => ?_)
          refine lv_bipush (v := 8) X.1 X.2.1 dX11_wide_56 (by decide) ?_
          refine mz_icmp_ne X 68 dX11_wide_58 (by decide) hr (fun hr => ?_) (fun hr => ?_)
          · refine mz_aload X dX11_wide_68 (mz_at hl 0 rfl) ?_
            refine lv_iload_n X.1 X.2.1 dX11_wide_70 rfl (mz_at hl 4 rfl) ?_
            refine lv_iconst (v := 0) X.1 X.2.1 dX11_wide_71 (by decide) ?_
            refine mz_kV Value.int X hH hS hl.1.1 [.int x3, .int 0] [] hr (ct_X6_faultAt l g h v1 x3 0) mb_RX11_265 rfl im_X6_faultAt rfl (Nat.le_of_ble_eq_true rfl) ⟨Nat.le_of_ble_eq_true rfl, Nat.le_of_ble_eq_true rfl⟩ hc hs dX11_wide_72 rfl (fun v6 h H locs cells slots dc ds hr hH hS hc hs => ?_)
            refine mz_istore X [(6, false, .int v6), (5, false, va_rf v1), (0, false, va_rf a0), (1, false, .int x1), (2, false, .int x2), (3, false, .int x3), (4, false, .int x4)] dX11_wide_75 hl (by decide) rfl (fun ls hl => ?_)
            refine lv_iload X.1 X.2.1 dX11_wide_77 (mz_at hl 0 rfl) ?_
            refine mz_if_eq X 89 dX11_wide_79 (by decide) hr (fun hr => ?_) (fun hr => ?_)
            · refine mz_aload X dX11_wide_89 (mz_at hl 1 rfl) ?_
              refine mz_getI X hH fl_RX11_233 dX11_wide_91 hr (fun v7 hr => ?_)
              refine lv_iload X.1 X.2.1 dX11_wide_94 (mz_at hl 6 rfl) ?_
              refine mz_kS Value.int X hH hS hl.1.1 [.int v7, .int x4] [] hr (ct_X3_widens l g h v7 x4) mb_RX11_291 im_X3_widens rfl (Nat.le_of_ble_eq_true rfl) ⟨Nat.le_of_ble_eq_true rfl, Nat.le_of_ble_eq_true rfl⟩ hc hs dX11_wide_96 rfl (fun v8 h H locs cells slots dc ds hr hH hS hc hs => ?_)
              refine mz_if_ne X 109 dX11_wide_99 (by decide) hr (fun hr => ?_) (fun hr => ?_)
              · refine mz_aload X dX11_wide_109 (mz_at hl 1 rfl) ?_
                refine lv_iload_n X.1 X.2.1 dX11_wide_111 rfl (mz_at hl 5 rfl) ?_
                refine lv_iconst (v := 0) X.1 X.2.1 dX11_wide_112 (by decide) ?_
                refine mz_kV Value.long X hH hS hl.1.1 [.int x3, .int 0] [] hr (ct_X6_cellAt l g h v1 x3 0) mb_RX11_269 rfl im_X6_cellAt rfl (Nat.le_of_ble_eq_true rfl) ⟨Nat.le_of_ble_eq_true rfl, Nat.le_of_ble_eq_true rfl⟩ hc hs dX11_wide_113 rfl (fun v9 h H locs cells slots dc ds hr hH hS hc hs => ?_)
                refine mz_aload X dX11_wide_116 (mz_at hl 1 rfl) ?_
                refine mz_getI X hH fl_RX11_233 dX11_wide_118 hr (fun v10 hr => ?_)
                refine lv_iload X.1 X.2.1 dX11_wide_121 (mz_at hl 6 rfl) ?_
                refine mz_kS Value.long X hH hS hl.1.1 [.long v9, .int v10, .int x4] [] hr (ct_X3_widened l g h v9 v10 x4) mb_RX11_294 im_X3_widened rfl (Nat.le_of_ble_eq_true rfl) ⟨Nat.le_of_ble_eq_true rfl, Nat.le_of_ble_eq_true rfl⟩ hc hs dX11_wide_123 rfl (fun v11 h H locs cells slots dc ds hr hH hS hc hs => ?_)
                exact mz_lret Y dX11_wide_126 hH hS hc hs hr
              · refine mz_aload_n X dX11_wide_102 rfl (mz_at hl 2 rfl) ?_
                refine lv_bipush (v := 7) X.1 X.2.1 dX11_wide_103 (by decide) ?_
                refine mz_kV Value.long X hH hS hl.1.1 [.int 7] [] hr (ct_X11_zeroAfter l g h a0 7) mb_RX11_273 rfl im_X11_zeroAfter rfl (Nat.le_of_ble_eq_true rfl) ⟨Nat.le_of_ble_eq_true rfl, Nat.le_of_ble_eq_true rfl⟩ hc hs dX11_wide_105 rfl (fun v12 h H locs cells slots dc ds hr hH hS hc hs => ?_)
                exact mz_lret Y dX11_wide_108 hH hS hc hs hr
            · refine mz_aload_n X dX11_wide_82 rfl (mz_at hl 2 rfl) ?_
              refine lv_iload X.1 X.2.1 dX11_wide_83 (mz_at hl 0 rfl) ?_
              refine mz_kV Value.long X hH hS hl.1.1 [.int v6] [] hr (ct_X11_zeroAfter l g h a0 v6) mb_RX11_273 rfl im_X11_zeroAfter rfl (Nat.le_of_ble_eq_true rfl) ⟨Nat.le_of_ble_eq_true rfl, Nat.le_of_ble_eq_true rfl⟩ hc hs dX11_wide_85 rfl (fun v13 h H locs cells slots dc ds hr hH hS hc hs => ?_)
              exact mz_lret Y dX11_wide_88 hH hS hc hs hr
          · exact pf_X11_wide_b61 r Y h a0 _ _ hr H locs cells slots ls hH hS (mz_sub hl [1] rfl) hc hs
      · refine mz_aload_n X dX11_wide_36 rfl (mz_at hl 1 rfl) ?_
        refine lv_iconst (v := 1) X.1 X.2.1 dX11_wide_37 (by decide) ?_
        refine mz_kV Value.long X hH hS hl.1.1 [.int 1] [] hr (ct_X11_zeroAfter l g h a0 1) mb_RX11_273 rfl im_X11_zeroAfter rfl (Nat.le_of_ble_eq_true rfl) ⟨Nat.le_of_ble_eq_true rfl, Nat.le_of_ble_eq_true rfl⟩ hc hs dX11_wide_38 rfl (fun v14 h H locs cells slots dc ds hr hH hS hc hs => ?_)
        exact mz_lret Y dX11_wide_41 hH hS hc hs hr
    · refine lv_lconst (v := 0) X.1 X.2.1 dX11_wide_26 (by decide) ?_
      exact mz_lret Y dX11_wide_27 hH hS hc hs hr
set_option maxRecDepth 100000 in
theorem ct_X11_wide (l : Launch) (g : mz_G) (h : mz_H) (a0 : (Option Nat)) (x1 : Int32) (x2 : Int32) (x3 : Int32) (x4 : Int32) (r : Int64) (hf : mz_H) (k n : Nat) (hr : fn_X11_wide h a0 x1 x2 x3 x4 = some (r, hf, k, n)) : mz_C l g yX11_wide cX11_wide 7 (some .long) 5 126 [va_rf a0, .int x1, .int x2, .int x3, .int x4] h (some (Value.long r)) hf k n := by
  refine mz_met (as := [(false, va_rf a0), (false, .int x1), (false, .int x2), (false, .int x3), (false, .int x4)]) (plainFor_of_name (by decide)) (mz_c1 (mz_cat_rf _) (mz_c1 rfl (mz_c1 rfl (mz_c1 rfl (mz_c1 rfl mz_c0))))) (Nat.le_of_ble_eq_true rfl) ?_
  intro p e s m args below meth c Y
  exact pf_X11_wide_b0 r Y h a0 x1 x2 x3 x4 _ _ hr
theorem dX11_copy_0 : decode cX11_copy 0 = .ok (.aload_n 0, 1) := by decide +kernel
theorem dX11_copy_1 : decode cX11_copy 1 = .ok (.iconst 0, 1) := by decide +kernel
theorem dX11_copy_2 : decode cX11_copy 2 = .ok (.putfield 185, 3) := by decide +kernel
theorem dX11_copy_5 : decode cX11_copy 5 = .ok (.aload_n 0, 1) := by decide +kernel
theorem dX11_copy_6 : decode cX11_copy 6 = .ok (.iload_n 1, 1) := by decide +kernel
theorem dX11_copy_7 : decode cX11_copy 7 = .ok (.iload_n 2, 1) := by decide +kernel
theorem dX11_copy_8 : decode cX11_copy 8 = .ok (.invokevirtual 226, 3) := by decide +kernel
theorem dX11_copy_11 : decode cX11_copy 11 = .ok (.astore 8, 2) := by decide +kernel
theorem dX11_copy_13 : decode cX11_copy 13 = .ok (.aload_n 0, 1) := by decide +kernel
theorem dX11_copy_14 : decode cX11_copy 14 = .ok (.iload 4, 2) := by decide +kernel
theorem dX11_copy_16 : decode cX11_copy 16 = .ok (.iload 5, 2) := by decide +kernel
theorem dX11_copy_18 : decode cX11_copy 18 = .ok (.invokevirtual 226, 3) := by decide +kernel
theorem dX11_copy_21 : decode cX11_copy 21 = .ok (.astore 9, 2) := by decide +kernel
theorem dX11_copy_23 : decode cX11_copy 23 = .ok (.aload 8, 2) := by decide +kernel
theorem dX11_copy_25 : decode cX11_copy 25 = .ok (.ifnull 8, 3) := by decide +kernel
theorem dX11_copy_28 : decode cX11_copy 28 = .ok (.aload 9, 2) := by decide +kernel
theorem dX11_copy_30 : decode cX11_copy 30 = .ok (.ifnonnull 5, 3) := by decide +kernel
theorem dX11_copy_33 : decode cX11_copy 33 = .ok (.iconst (-1), 1) := by decide +kernel
theorem dX11_copy_34 : decode cX11_copy 34 = .ok (.ireturn, 1) := by decide +kernel
theorem dX11_copy_35 : decode cX11_copy 35 = .ok (.aload 8, 2) := by decide +kernel
theorem dX11_copy_37 : decode cX11_copy 37 = .ok (.getfield 233, 3) := by decide +kernel
theorem dX11_copy_40 : decode cX11_copy 40 = .ok (.aload 9, 2) := by decide +kernel
theorem dX11_copy_42 : decode cX11_copy 42 = .ok (.getfield 233, 3) := by decide +kernel
theorem dX11_copy_45 : decode cX11_copy 45 = .ok (.if_icmp .ne 21, 3) := by decide +kernel
theorem dX11_copy_48 : decode cX11_copy 48 = .ok (.aload 8, 2) := by decide +kernel
theorem dX11_copy_50 : decode cX11_copy 50 = .ok (.getfield 234, 3) := by decide +kernel
theorem dX11_copy_53 : decode cX11_copy 53 = .ok (.iconst 2, 1) := by decide +kernel
theorem dX11_copy_54 : decode cX11_copy 54 = .ok (.if_icmp .eq 12, 3) := by decide +kernel
theorem dX11_copy_57 : decode cX11_copy 57 = .ok (.aload 9, 2) := by decide +kernel
theorem dX11_copy_59 : decode cX11_copy 59 = .ok (.getfield 234, 3) := by decide +kernel
theorem dX11_copy_62 : decode cX11_copy 62 = .ok (.iconst 2, 1) := by decide +kernel
theorem dX11_copy_63 : decode cX11_copy 63 = .ok (.if_icmp .ne 6, 3) := by decide +kernel
theorem dX11_copy_66 : decode cX11_copy 66 = .ok (.bipush (-3), 2) := by decide +kernel
theorem dX11_copy_68 : decode cX11_copy 68 = .ok (.ireturn, 1) := by decide +kernel
theorem dX11_copy_69 : decode cX11_copy 69 = .ok (.aload 8, 2) := by decide +kernel
theorem dX11_copy_71 : decode cX11_copy 71 = .ok (.getfield 298, 3) := by decide +kernel
theorem dX11_copy_74 : decode cX11_copy 74 = .ok (.ifnull 11, 3) := by decide +kernel
theorem dX11_copy_77 : decode cX11_copy 77 = .ok (.aload 9, 2) := by decide +kernel
theorem dX11_copy_79 : decode cX11_copy 79 = .ok (.getfield 298, 3) := by decide +kernel
theorem dX11_copy_82 : decode cX11_copy 82 = .ok (.ifnonnull 9, 3) := by decide +kernel
theorem dX11_copy_85 : decode cX11_copy 85 = .ok (.aload_n 0, 1) := by decide +kernel
theorem dX11_copy_86 : decode cX11_copy 86 = .ok (.iconst 1, 1) := by decide +kernel
theorem dX11_copy_87 : decode cX11_copy 87 = .ok (.invokevirtual 195, 3) := by decide +kernel
theorem dX11_copy_90 : decode cX11_copy 90 = .ok (.ireturn, 1) := by decide +kernel
theorem dX11_copy_91 : decode cX11_copy 91 = .ok (.aload 8, 2) := by decide +kernel
theorem dX11_copy_93 : decode cX11_copy 93 = .ok (.getfield 298, 3) := by decide +kernel
theorem dX11_copy_96 : decode cX11_copy 96 = .ok (.iload_n 3, 1) := by decide +kernel
theorem dX11_copy_97 : decode cX11_copy 97 = .ok (.iload 7, 2) := by decide +kernel
theorem dX11_copy_99 : decode cX11_copy 99 = .ok (.invokevirtual 302, 3) := by decide +kernel
theorem dX11_copy_102 : decode cX11_copy 102 = .ok (.ifCond .eq 18, 3) := by decide +kernel
theorem dX11_copy_105 : decode cX11_copy 105 = .ok (.aload 9, 2) := by decide +kernel
theorem dX11_copy_107 : decode cX11_copy 107 = .ok (.getfield 298, 3) := by decide +kernel
theorem dX11_copy_110 : decode cX11_copy 110 = .ok (.iload 6, 2) := by decide +kernel
theorem dX11_copy_112 : decode cX11_copy 112 = .ok (.iload 7, 2) := by decide +kernel
theorem dX11_copy_114 : decode cX11_copy 114 = .ok (.invokevirtual 302, 3) := by decide +kernel
theorem dX11_copy_117 : decode cX11_copy 117 = .ok (.ifCond .ne 9, 3) := by decide +kernel
theorem dX11_copy_120 : decode cX11_copy 120 = .ok (.aload_n 0, 1) := by decide +kernel
theorem dX11_copy_121 : decode cX11_copy 121 = .ok (.iconst 3, 1) := by decide +kernel
theorem dX11_copy_122 : decode cX11_copy 122 = .ok (.invokevirtual 195, 3) := by decide +kernel
theorem dX11_copy_125 : decode cX11_copy 125 = .ok (.ireturn, 1) := by decide +kernel
theorem dX11_copy_126 : decode cX11_copy 126 = .ok (.aload 8, 2) := by decide +kernel
theorem dX11_copy_128 : decode cX11_copy 128 = .ok (.getfield 298, 3) := by decide +kernel
theorem dX11_copy_131 : decode cX11_copy 131 = .ok (.getfield 261, 3) := by decide +kernel
theorem dX11_copy_134 : decode cX11_copy 134 = .ok (.iload_n 3, 1) := by decide +kernel
theorem dX11_copy_135 : decode cX11_copy 135 = .ok (.aload 9, 2) := by decide +kernel
theorem dX11_copy_137 : decode cX11_copy 137 = .ok (.getfield 298, 3) := by decide +kernel
theorem dX11_copy_140 : decode cX11_copy 140 = .ok (.getfield 261, 3) := by decide +kernel
theorem dX11_copy_143 : decode cX11_copy 143 = .ok (.iload 6, 2) := by decide +kernel
theorem dX11_copy_145 : decode cX11_copy 145 = .ok (.iload 7, 2) := by decide +kernel
theorem dX11_copy_147 : decode cX11_copy 147 = .ok (.invokestatic 305, 3) := by decide +kernel
theorem dX11_copy_150 : decode cX11_copy 150 = .ok (.iload 7, 2) := by decide +kernel
theorem dX11_copy_152 : decode cX11_copy 152 = .ok (.ireturn, 1) := by decide +kernel
def fn_X11_copy_b120 (h : mz_H) (a0 : (Option Nat)) : mz_Res Int32 :=
  mz_chk (mz_is h a0 10) <| mz_call (fn_X11_comeTo h a0 3) fun v1 h =>
  mz_ret v1 h
set_option maxHeartbeats 4000000 in
set_option maxRecDepth 100000 in
theorem pf_X11_copy_b120 (r : Int32) (Y : mz_Y p g RX11 cX11_copy 10 (some .int) "copy" (mz_AF h0) s m args meth c) (h : mz_H) (a0 : (Option Nat)) (dc ds : Nat) (hr : fn_X11_copy_b120 h a0 = some (r, hf, dc, ds)) : mz_Go l g p e s m args below meth c 2 80 DC DS h0 (some (Value.int r)) hf 10 120 [(0, false, va_rf a0)] [] h dc ds := by
  unfold fn_X11_copy_b120 at hr
  intro H locs cells slots ls hH hS hl hc hs
  have X := Y.1
  refine mz_aload_n X dX11_copy_120 rfl (mz_at hl 0 rfl) ?_
  refine lv_iconst (v := 3) X.1 X.2.1 dX11_copy_121 (by decide) ?_
  refine mz_kV Value.int X hH hS hl.1.1 [.int 3] [] hr (ct_X11_comeTo l g h a0 3) mb_RX11_195 rfl im_X11_comeTo rfl (Nat.le_of_ble_eq_true rfl) ⟨Nat.le_of_ble_eq_true rfl, Nat.le_of_ble_eq_true rfl⟩ hc hs dX11_copy_122 rfl (fun v1 h H locs cells slots dc ds hr hH hS hc hs => ?_)
  exact mz_iret Y dX11_copy_125 hH hS hc hs hr
def fn_X11_copy_b85 (h : mz_H) (a0 : (Option Nat)) : mz_Res Int32 :=
  mz_chk (mz_is h a0 10) <| mz_call (fn_X11_comeTo h a0 1) fun v1 h =>
  mz_ret v1 h
set_option maxHeartbeats 4000000 in
set_option maxRecDepth 100000 in
theorem pf_X11_copy_b85 (r : Int32) (Y : mz_Y p g RX11 cX11_copy 10 (some .int) "copy" (mz_AF h0) s m args meth c) (h : mz_H) (a0 : (Option Nat)) (dc ds : Nat) (hr : fn_X11_copy_b85 h a0 = some (r, hf, dc, ds)) : mz_Go l g p e s m args below meth c 2 80 DC DS h0 (some (Value.int r)) hf 10 85 [(0, false, va_rf a0)] [] h dc ds := by
  unfold fn_X11_copy_b85 at hr
  intro H locs cells slots ls hH hS hl hc hs
  have X := Y.1
  refine mz_aload_n X dX11_copy_85 rfl (mz_at hl 0 rfl) ?_
  refine lv_iconst (v := 1) X.1 X.2.1 dX11_copy_86 (by decide) ?_
  refine mz_kV Value.int X hH hS hl.1.1 [.int 1] [] hr (ct_X11_comeTo l g h a0 1) mb_RX11_195 rfl im_X11_comeTo rfl (Nat.le_of_ble_eq_true rfl) ⟨Nat.le_of_ble_eq_true rfl, Nat.le_of_ble_eq_true rfl⟩ hc hs dX11_copy_87 rfl (fun v1 h H locs cells slots dc ds hr hH hS hc hs => ?_)
  exact mz_iret Y dX11_copy_90 hH hS hc hs hr
def fn_X11_copy (h : mz_H) (a0 : (Option Nat)) (x1 : Int32) (x2 : Int32) (x3 : Int32) (x4 : Int32) (x5 : Int32) (x6 : Int32) (x7 : Int32) : mz_Res Int32 :=
  mz_op (mz_pF h a0 10 8 (Value.int 0)) fun h =>
  mz_chk (mz_is h a0 10) <| mz_call (fn_X11_slotOf h a0 x1 x2) fun v1 h =>
  mz_chk (mz_is h a0 10) <| mz_call (fn_X11_slotOf h a0 x4 x5) fun v2 h =>
  if v1 = none then
    mz_ret (-1) h
  else
    if v2 = none then
      mz_ret (-1) h
    else
      mz_op (mz_fI h v1 5 1) fun v3 =>
      mz_op (mz_fI h v2 5 1) fun v4 =>
      if v3 = v4 then
        mz_op (mz_fI h v1 5 2) fun v5 =>
        if v5 = 2 then
          mz_ret (-3) h
        else
          mz_op (mz_fI h v2 5 2) fun v6 =>
          if v6 = 2 then
            mz_ret (-3) h
          else
            mz_op (mz_fR h v1 5 4) fun v7 =>
            if v7 = none then
              fn_X11_copy_b85 h a0
            else
              mz_op (mz_fR h v2 5 4) fun v8 =>
              if v8 = none then
                fn_X11_copy_b85 h a0
              else
                mz_op (mz_fR h v1 5 4) fun v9 =>
                mz_chk (mz_is h v9 4) <| mz_call (fn_X5_hasRange h v9 x3 x7) fun v10 h =>
                if v10 = 0 then
                  fn_X11_copy_b120 h a0
                else
                  mz_op (mz_fR h v2 5 4) fun v11 =>
                  mz_chk (mz_is h v11 4) <| mz_call (fn_X5_hasRange h v11 x6 x7) fun v12 h =>
                  if v12 = 0 then
                    fn_X11_copy_b120 h a0
                  else
                    mz_op (mz_fR h v1 5 4) fun v13 =>
                    mz_op (mz_fR h v13 4 0) fun v14 =>
                    mz_op (mz_fR h v2 5 4) fun v15 =>
                    mz_op (mz_fR h v15 4 0) fun v16 =>
                    mz_op (mz_cpyJ h v14 x3 v16 x6 x7) fun h =>
                    mz_ret x7 h
      else
        mz_ret (-3) h
set_option maxHeartbeats 4000000 in
set_option maxRecDepth 100000 in
theorem pf_X11_copy_b0 (r : Int32) (Y : mz_Y p g RX11 cX11_copy 10 (some .int) "copy" (mz_AF h0) s m args meth c) (h : mz_H) (a0 : (Option Nat)) (x1 : Int32) (x2 : Int32) (x3 : Int32) (x4 : Int32) (x5 : Int32) (x6 : Int32) (x7 : Int32) (dc ds : Nat) (hr : fn_X11_copy h a0 x1 x2 x3 x4 x5 x6 x7 = some (r, hf, dc, ds)) : mz_Go l g p e s m args below meth c 2 80 DC DS h0 (some (Value.int r)) hf 10 0 [(0, false, va_rf a0), (1, false, .int x1), (2, false, .int x2), (3, false, .int x3), (4, false, .int x4), (5, false, .int x5), (6, false, .int x6), (7, false, .int x7)] [] h dc ds := by
  unfold fn_X11_copy at hr
  intro H locs cells slots ls hH hS hl hc hs
  have X := Y.1
  refine mz_aload_n X dX11_copy_0 rfl (mz_at hl 0 rfl) ?_
  refine lv_iconst (v := 0) X.1 X.2.1 dX11_copy_1 (by decide) ?_
  refine mz_put X hH hS fp_RX11_185 dX11_copy_2 rfl rfl hr (fun h H locs hr hH hS => ?_)
  refine mz_aload_n X dX11_copy_5 rfl (mz_at hl 0 rfl) ?_
  refine lv_iload_n X.1 X.2.1 dX11_copy_6 rfl (mz_at hl 1 rfl) ?_
  refine lv_iload_n X.1 X.2.1 dX11_copy_7 rfl (mz_at hl 2 rfl) ?_
  refine mz_kV va_rf X hH hS hl.1.1 [.int x1, .int x2] [] hr (ct_X11_slotOf l g h a0 x1 x2) mb_RX11_226 rfl im_X11_slotOf rfl (Nat.le_of_ble_eq_true rfl) ⟨Nat.le_of_ble_eq_true rfl, Nat.le_of_ble_eq_true rfl⟩ hc hs dX11_copy_8 rfl (fun v1 h H locs cells slots dc ds hr hH hS hc hs => ?_)
  refine mz_astore X [(8, false, va_rf v1), (0, false, va_rf a0), (1, false, .int x1), (2, false, .int x2), (3, false, .int x3), (4, false, .int x4), (5, false, .int x5), (6, false, .int x6), (7, false, .int x7)] dX11_copy_11 hl (by decide) rfl (fun ls hl => ?_)
  refine mz_aload_n X dX11_copy_13 rfl (mz_at hl 1 rfl) ?_
  refine lv_iload X.1 X.2.1 dX11_copy_14 (mz_at hl 5 rfl) ?_
  refine lv_iload X.1 X.2.1 dX11_copy_16 (mz_at hl 6 rfl) ?_
  refine mz_kV va_rf X hH hS hl.1.1 [.int x4, .int x5] [] hr (ct_X11_slotOf l g h a0 x4 x5) mb_RX11_226 rfl im_X11_slotOf rfl (Nat.le_of_ble_eq_true rfl) ⟨Nat.le_of_ble_eq_true rfl, Nat.le_of_ble_eq_true rfl⟩ hc hs dX11_copy_18 rfl (fun v2 h H locs cells slots dc ds hr hH hS hc hs => ?_)
  refine mz_astore X [(9, false, va_rf v2), (8, false, va_rf v1), (0, false, va_rf a0), (1, false, .int x1), (2, false, .int x2), (3, false, .int x3), (4, false, .int x4), (5, false, .int x5), (6, false, .int x6), (7, false, .int x7)] dX11_copy_21 hl (by decide) rfl (fun ls hl => ?_)
  refine mz_aload X dX11_copy_23 (mz_at hl 1 rfl) ?_
  refine mz_ifnull X 33 dX11_copy_25 (by decide) hr (fun hr => ?_) (fun hr => ?_)
  · refine lv_iconst (v := (-1)) X.1 X.2.1 dX11_copy_33 (by decide) ?_
    exact mz_iret Y dX11_copy_34 hH hS hc hs hr
  · refine mz_aload X dX11_copy_28 (mz_at hl 0 rfl) ?_
    refine mz_ifnonnull X 35 dX11_copy_30 (by decide) hr (fun hr => ?_) (fun hr => ?_)
    · refine mz_aload X dX11_copy_35 (mz_at hl 1 rfl) ?_
      refine mz_getI X hH fl_RX11_233 dX11_copy_37 hr (fun v3 hr => ?_)
      refine mz_aload X dX11_copy_40 (mz_at hl 0 rfl) ?_
      refine mz_getI X hH fl_RX11_233 dX11_copy_42 hr (fun v4 hr => ?_)
      refine mz_icmp_ne X 66 dX11_copy_45 (by decide) hr (fun hr => ?_) (fun hr => ?_)
      · refine lv_bipush (v := (-3)) X.1 X.2.1 dX11_copy_66 (by decide) ?_
        exact mz_iret Y dX11_copy_68 hH hS hc hs hr
      · refine mz_aload X dX11_copy_48 (mz_at hl 1 rfl) ?_
        refine mz_getI X hH fl_RX11_234 dX11_copy_50 hr (fun v5 hr => ?_)
        refine lv_iconst (v := 2) X.1 X.2.1 dX11_copy_53 (by decide) ?_
        refine mz_icmp_eq X 66 dX11_copy_54 (by decide) hr (fun hr => ?_) (fun hr => ?_)
        · refine lv_bipush (v := (-3)) X.1 X.2.1 dX11_copy_66 (by decide) ?_
          exact mz_iret Y dX11_copy_68 hH hS hc hs hr
        · refine mz_aload X dX11_copy_57 (mz_at hl 0 rfl) ?_
          refine mz_getI X hH fl_RX11_234 dX11_copy_59 hr (fun v6 hr => ?_)
          refine lv_iconst (v := 2) X.1 X.2.1 dX11_copy_62 (by decide) ?_
          refine mz_icmp_ne X 69 dX11_copy_63 (by decide) hr (fun hr => ?_) (fun hr => ?_)
          · refine mz_aload X dX11_copy_69 (mz_at hl 1 rfl) ?_
            refine mz_getR X hH fl_RX11_298 dX11_copy_71 hr (fun v7 hr => ?_)
            refine mz_ifnull X 85 dX11_copy_74 (by decide) hr (fun hr => ?_) (fun hr => ?_)
            · exact pf_X11_copy_b85 r Y h a0 _ _ hr H locs cells slots ls hH hS (mz_sub hl [2] rfl) hc hs
            · refine mz_aload X dX11_copy_77 (mz_at hl 0 rfl) ?_
              refine mz_getR X hH fl_RX11_298 dX11_copy_79 hr (fun v8 hr => ?_)
              refine mz_ifnonnull X 91 dX11_copy_82 (by decide) hr (fun hr => ?_) (fun hr => ?_)
              · refine mz_aload X dX11_copy_91 (mz_at hl 1 rfl) ?_
                refine mz_getR X hH fl_RX11_298 dX11_copy_93 hr (fun v9 hr => ?_)
                refine lv_iload_n X.1 X.2.1 dX11_copy_96 rfl (mz_at hl 5 rfl) ?_
                refine lv_iload X.1 X.2.1 dX11_copy_97 (mz_at hl 9 rfl) ?_
                refine mz_kV Value.int X hH hS hl.1.1 [.int x3, .int x7] [] hr (ct_X5_hasRange l g h v9 x3 x7) mb_RX11_302 rfl im_X5_hasRange rfl (Nat.le_of_ble_eq_true rfl) ⟨Nat.le_of_ble_eq_true rfl, Nat.le_of_ble_eq_true rfl⟩ hc hs dX11_copy_99 rfl (fun v10 h H locs cells slots dc ds hr hH hS hc hs => ?_)
                refine mz_if_eq X 120 dX11_copy_102 (by decide) hr (fun hr => ?_) (fun hr => ?_)
                · exact pf_X11_copy_b120 r Y h a0 _ _ hr H locs cells slots ls hH hS (mz_sub hl [2] rfl) hc hs
                · refine mz_aload X dX11_copy_105 (mz_at hl 0 rfl) ?_
                  refine mz_getR X hH fl_RX11_298 dX11_copy_107 hr (fun v11 hr => ?_)
                  refine lv_iload X.1 X.2.1 dX11_copy_110 (mz_at hl 8 rfl) ?_
                  refine lv_iload X.1 X.2.1 dX11_copy_112 (mz_at hl 9 rfl) ?_
                  refine mz_kV Value.int X hH hS hl.1.1 [.int x6, .int x7] [] hr (ct_X5_hasRange l g h v11 x6 x7) mb_RX11_302 rfl im_X5_hasRange rfl (Nat.le_of_ble_eq_true rfl) ⟨Nat.le_of_ble_eq_true rfl, Nat.le_of_ble_eq_true rfl⟩ hc hs dX11_copy_114 rfl (fun v12 h H locs cells slots dc ds hr hH hS hc hs => ?_)
                  refine mz_if_ne X 126 dX11_copy_117 (by decide) hr (fun hr => ?_) (fun hr => ?_)
                  · refine mz_aload X dX11_copy_126 (mz_at hl 1 rfl) ?_
                    refine mz_getR X hH fl_RX11_298 dX11_copy_128 hr (fun v13 hr => ?_)
                    refine mz_getR X hH fl_RX11_261 dX11_copy_131 hr (fun v14 hr => ?_)
                    refine lv_iload_n X.1 X.2.1 dX11_copy_134 rfl (mz_at hl 5 rfl) ?_
                    refine mz_aload X dX11_copy_135 (mz_at hl 0 rfl) ?_
                    refine mz_getR X hH fl_RX11_298 dX11_copy_137 hr (fun v15 hr => ?_)
                    refine mz_getR X hH fl_RX11_261 dX11_copy_140 hr (fun v16 hr => ?_)
                    refine lv_iload X.1 X.2.1 dX11_copy_143 (mz_at hl 8 rfl) ?_
                    refine lv_iload X.1 X.2.1 dX11_copy_145 (mz_at hl 9 rfl) ?_
                    refine mz_copy X hH hS hl.1.1 ac_RX11_305 (Nat.le_of_ble_eq_true rfl) ⟨Nat.le_of_ble_eq_true rfl, (by show 8 + (nativeFrameWords "java/lang/System" "arraycopy" 5 + 11) ≤ 80; decide)⟩ dX11_copy_147 hr (fun h H locs hr hH hS => ?_)
                    refine lv_iload X.1 X.2.1 dX11_copy_150 (mz_at hl 9 rfl) ?_
                    exact mz_iret Y dX11_copy_152 hH hS hc hs hr
                  · exact pf_X11_copy_b120 r Y h a0 _ _ hr H locs cells slots ls hH hS (mz_sub hl [2] rfl) hc hs
              · exact pf_X11_copy_b85 r Y h a0 _ _ hr H locs cells slots ls hH hS (mz_sub hl [2] rfl) hc hs
          · refine lv_bipush (v := (-3)) X.1 X.2.1 dX11_copy_66 (by decide) ?_
            exact mz_iret Y dX11_copy_68 hH hS hc hs hr
    · refine lv_iconst (v := (-1)) X.1 X.2.1 dX11_copy_33 (by decide) ?_
      exact mz_iret Y dX11_copy_34 hH hS hc hs hr
set_option maxRecDepth 100000 in
theorem ct_X11_copy (l : Launch) (g : mz_G) (h : mz_H) (a0 : (Option Nat)) (x1 : Int32) (x2 : Int32) (x3 : Int32) (x4 : Int32) (x5 : Int32) (x6 : Int32) (x7 : Int32) (r : Int32) (hf : mz_H) (k n : Nat) (hr : fn_X11_copy h a0 x1 x2 x3 x4 x5 x6 x7 = some (r, hf, k, n)) : mz_C l g yX11_copy cX11_copy 10 (some .int) 2 80 [va_rf a0, .int x1, .int x2, .int x3, .int x4, .int x5, .int x6, .int x7] h (some (Value.int r)) hf k n := by
  refine mz_met (as := [(false, va_rf a0), (false, .int x1), (false, .int x2), (false, .int x3), (false, .int x4), (false, .int x5), (false, .int x6), (false, .int x7)]) (plainFor_of_name (by decide)) (mz_c1 (mz_cat_rf _) (mz_c1 rfl (mz_c1 rfl (mz_c1 rfl (mz_c1 rfl (mz_c1 rfl (mz_c1 rfl (mz_c1 rfl mz_c0)))))))) (Nat.le_of_ble_eq_true rfl) ?_
  intro p e s m args below meth c Y
  exact pf_X11_copy_b0 r Y h a0 x1 x2 x3 x4 x5 x6 x7 _ _ hr
end

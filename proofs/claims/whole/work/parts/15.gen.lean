/-! X0_init X0_begin X0_take X0_joined X0_folded X11_init X11_mayBeParent X11_cls X11_face X11_isNumberLane X11_variable X11_member -/
section
variable {p : Program} {l : Launch} {e : Env} {s : State} {m : MethodId} {args : Array Value} {below : List Frame} {meth : Method} {c : Code} {g : mz_G} {h0 hf : mz_H} {DC DS : Nat}
theorem dX0_init_0 : decode cX0_init 0 = .ok (.aload_n 0, 1) := by decide +kernel
theorem dX0_init_1 : decode cX0_init 1 = .ok (.invokespecial 3, 3) := by decide +kernel
theorem dX0_init_4 : decode cX0_init 4 = .ok (.aload_n 0, 1) := by decide +kernel
theorem dX0_init_5 : decode cX0_init 5 = .ok (.bipush 60, 2) := by decide +kernel
theorem dX0_init_7 : decode cX0_init 7 = .ok (.newarray .long, 2) := by decide +kernel
theorem dX0_init_9 : decode cX0_init 9 = .ok (.putfield 9, 3) := by decide +kernel
theorem dX0_init_12 : decode cX0_init 12 = .ok (.return_, 1) := by decide +kernel
def fn_X0_init (h : mz_H) (a0 : (Option Nat)) : mz_Res Unit :=
  mz_chk (a0).isSome <|
  mz_aN h 1 60 (.inr (.inl (fun _ => 0))) fun v1 h =>
  mz_op (mz_pF h a0 0 0 (va_rf v1)) fun h =>
  mz_ret () h
set_option maxHeartbeats 4000000 in
set_option maxRecDepth 100000 in
theorem pf_X0_init_b0 (r : Unit) (Y : mz_Y p g RX0 cX0_init 1 none "<init>" (mz_AF h0) s m args meth c) (h : mz_H) (a0 : (Option Nat)) (dc ds : Nat) (hr : fn_X0_init h a0 = some (r, hf, dc, ds)) : mz_Go l g p e s m args below meth c 1 20 DC DS h0 none hf 1 0 [(0, false, va_rf a0)] [] h dc ds := by
  unfold fn_X0_init at hr
  intro H locs cells slots ls hH hS hl hc hs
  have X := Y.1
  refine mz_aload_n X dX0_init_0 rfl (mz_at hl 0 rfl) ?_
  refine mz_oinit X hl.1.1 oi_RX0_3 (Nat.le_of_ble_eq_true rfl) ⟨Nat.le_of_ble_eq_true rfl, Nat.le_of_ble_eq_true rfl⟩ dX0_init_1 hr (fun hr => ?_)
  refine mz_aload_n X dX0_init_4 rfl (mz_at hl 0 rfl) ?_
  refine lv_bipush (v := 60) X.1 X.2.1 dX0_init_5 (by decide) ?_
  refine mz_kA (t := 1) X hH hS (by decide) rfl rfl (by decide) (mz_tb 201 (by decide +kernel) rfl) (fun _ _ => rfl) dX0_init_7 hr hc hs (fun v1 h H cells slots dc ds hr hH hS hc hs => ?_)
  refine mz_putF X Y.2.2.2 hH hS fp_RX0_9 dX0_init_9 (mz_nra _ _).1 (mz_nra _ _).2 hr (fun h H locs hr hH hS => ?_)
  exact mz_vret Y dX0_init_12 hH hS hc hs hr
set_option maxRecDepth 100000 in
theorem ct_X0_init (l : Launch) (g : mz_G) (h : mz_H) (a0 : (Option Nat)) (r : Unit) (hf : mz_H) (k n : Nat) (hr : fn_X0_init h a0 = some (r, hf, k, n)) : mz_C l g yX0_init cX0_init 1 none 1 20 [va_rf a0] h none hf k n := by
  refine mz_met (as := [(false, va_rf a0)]) (plainFor_of_name (by decide)) (mz_c1 (mz_cat_rf _) mz_c0) (Nat.le_of_ble_eq_true rfl) ?_
  intro p e s m args below meth c Y
  exact pf_X0_init_b0 r Y h a0 _ _ hr
theorem dX0_begin_0 : decode cX0_begin 0 = .ok (.aload_n 0, 1) := by decide +kernel
theorem dX0_begin_1 : decode cX0_begin 1 = .ok (.iload_n 1, 1) := by decide +kernel
theorem dX0_begin_2 : decode cX0_begin 2 = .ok (.putfield 15, 3) := by decide +kernel
theorem dX0_begin_5 : decode cX0_begin 5 = .ok (.aload_n 0, 1) := by decide +kernel
theorem dX0_begin_6 : decode cX0_begin 6 = .ok (.iconst 0, 1) := by decide +kernel
theorem dX0_begin_7 : decode cX0_begin 7 = .ok (.putfield 19, 3) := by decide +kernel
theorem dX0_begin_10 : decode cX0_begin 10 = .ok (.aload_n 0, 1) := by decide +kernel
theorem dX0_begin_11 : decode cX0_begin 11 = .ok (.iconst 1, 1) := by decide +kernel
theorem dX0_begin_12 : decode cX0_begin 12 = .ok (.putfield 22, 3) := by decide +kernel
theorem dX0_begin_15 : decode cX0_begin 15 = .ok (.return_, 1) := by decide +kernel
def fn_X0_begin (h : mz_H) (a0 : (Option Nat)) (x1 : Int32) : mz_Res Unit :=
  mz_op (mz_pF h a0 0 2 (Value.int x1)) fun h =>
  mz_op (mz_pF h a0 0 1 (Value.int 0)) fun h =>
  mz_op (mz_pF h a0 0 3 (Value.int 1)) fun h =>
  mz_ret () h
set_option maxHeartbeats 4000000 in
set_option maxRecDepth 100000 in
theorem pf_X0_begin_b0 (r : Unit) (Y : mz_Y p g RX0 cX0_begin 2 none "begin" (mz_AF h0) s m args meth c) (h : mz_H) (a0 : (Option Nat)) (x1 : Int32) (dc ds : Nat) (hr : fn_X0_begin h a0 x1 = some (r, hf, dc, ds)) : mz_Go l g p e s m args below meth c 0 0 DC DS h0 none hf 2 0 [(0, false, va_rf a0), (1, false, .int x1)] [] h dc ds := by
  unfold fn_X0_begin at hr
  intro H locs cells slots ls hH hS hl hc hs
  have X := Y.1
  refine mz_aload_n X dX0_begin_0 rfl (mz_at hl 0 rfl) ?_
  refine lv_iload_n X.1 X.2.1 dX0_begin_1 rfl (mz_at hl 1 rfl) ?_
  refine mz_put X hH hS fp_RX0_15 dX0_begin_2 rfl rfl hr (fun h H locs hr hH hS => ?_)
  refine mz_aload_n X dX0_begin_5 rfl (mz_at hl 0 rfl) ?_
  refine lv_iconst (v := 0) X.1 X.2.1 dX0_begin_6 (by decide) ?_
  refine mz_put X hH hS fp_RX0_19 dX0_begin_7 rfl rfl hr (fun h H locs hr hH hS => ?_)
  refine mz_aload_n X dX0_begin_10 rfl (mz_at hl 0 rfl) ?_
  refine lv_iconst (v := 1) X.1 X.2.1 dX0_begin_11 (by decide) ?_
  refine mz_put X hH hS fp_RX0_22 dX0_begin_12 (by decide) (by decide) hr (fun h H locs hr hH hS => ?_)
  exact mz_vret Y dX0_begin_15 hH hS hc hs hr
set_option maxRecDepth 100000 in
theorem ct_X0_begin (l : Launch) (g : mz_G) (h : mz_H) (a0 : (Option Nat)) (x1 : Int32) (r : Unit) (hf : mz_H) (k n : Nat) (hr : fn_X0_begin h a0 x1 = some (r, hf, k, n)) : mz_C l g yX0_begin cX0_begin 2 none 0 0 [va_rf a0, .int x1] h none hf k n := by
  refine mz_met (as := [(false, va_rf a0), (false, .int x1)]) (plainFor_of_name (by decide)) (mz_c1 (mz_cat_rf _) (mz_c1 rfl mz_c0)) (Nat.le_of_ble_eq_true rfl) ?_
  intro p e s m args below meth c Y
  exact pf_X0_begin_b0 r Y h a0 x1 _ _ hr
theorem dX0_take_0 : decode cX0_take 0 = .ok (.aload_n 1, 1) := by decide +kernel
theorem dX0_take_1 : decode cX0_take 1 = .ok (.getfield 26, 3) := by decide +kernel
theorem dX0_take_4 : decode cX0_take 4 = .ok (.aload_n 0, 1) := by decide +kernel
theorem dX0_take_5 : decode cX0_take 5 = .ok (.getfield 15, 3) := by decide +kernel
theorem dX0_take_8 : decode cX0_take 8 = .ok (.invokestatic 29, 3) := by decide +kernel
theorem dX0_take_11 : decode cX0_take 11 = .ok (.ifCond .eq 15, 3) := by decide +kernel
theorem dX0_take_14 : decode cX0_take 14 = .ok (.aload_n 0, 1) := by decide +kernel
theorem dX0_take_15 : decode cX0_take 15 = .ok (.getfield 19, 3) := by decide +kernel
theorem dX0_take_18 : decode cX0_take 18 = .ok (.aload_n 0, 1) := by decide +kernel
theorem dX0_take_19 : decode cX0_take 19 = .ok (.getfield 9, 3) := by decide +kernel
theorem dX0_take_22 : decode cX0_take 22 = .ok (.arraylength, 1) := by decide +kernel
theorem dX0_take_23 : decode cX0_take 23 = .ok (.if_icmp .lt 5, 3) := by decide +kernel
theorem dX0_take_26 : decode cX0_take 26 = .ok (.iconst 0, 1) := by decide +kernel
theorem dX0_take_27 : decode cX0_take 27 = .ok (.ireturn, 1) := by decide +kernel
theorem dX0_take_28 : decode cX0_take 28 = .ok (.aload_n 0, 1) := by decide +kernel
theorem dX0_take_29 : decode cX0_take 29 = .ok (.getfield 9, 3) := by decide +kernel
theorem dX0_take_32 : decode cX0_take 32 = .ok (.aload_n 0, 1) := by decide +kernel
theorem dX0_take_33 : decode cX0_take 33 = .ok (.getfield 19, 3) := by decide +kernel
theorem dX0_take_36 : decode cX0_take 36 = .ok (.aload_n 1, 1) := by decide +kernel
theorem dX0_take_37 : decode cX0_take 37 = .ok (.iconst 0, 1) := by decide +kernel
theorem dX0_take_38 : decode cX0_take 38 = .ok (.iconst 0, 1) := by decide +kernel
theorem dX0_take_39 : decode cX0_take 39 = .ok (.invokevirtual 35, 3) := by decide +kernel
theorem dX0_take_42 : decode cX0_take 42 = .ok (.aload_n 1, 1) := by decide +kernel
theorem dX0_take_43 : decode cX0_take 43 = .ok (.getfield 26, 3) := by decide +kernel
theorem dX0_take_46 : decode cX0_take 46 = .ok (.aload_n 0, 1) := by decide +kernel
theorem dX0_take_47 : decode cX0_take 47 = .ok (.getfield 15, 3) := by decide +kernel
theorem dX0_take_50 : decode cX0_take 50 = .ok (.invokestatic 39, 3) := by decide +kernel
theorem dX0_take_53 : decode cX0_take 53 = .ok (.lastore, 1) := by decide +kernel
theorem dX0_take_54 : decode cX0_take 54 = .ok (.aload_n 0, 1) := by decide +kernel
theorem dX0_take_55 : decode cX0_take 55 = .ok (.dup, 1) := by decide +kernel
theorem dX0_take_56 : decode cX0_take 56 = .ok (.getfield 19, 3) := by decide +kernel
theorem dX0_take_59 : decode cX0_take 59 = .ok (.iconst 1, 1) := by decide +kernel
theorem dX0_take_60 : decode cX0_take 60 = .ok (.iadd, 1) := by decide +kernel
theorem dX0_take_61 : decode cX0_take 61 = .ok (.putfield 19, 3) := by decide +kernel
theorem dX0_take_64 : decode cX0_take 64 = .ok (.iconst 1, 1) := by decide +kernel
theorem dX0_take_65 : decode cX0_take 65 = .ok (.ireturn, 1) := by decide +kernel
def fn_X0_take (h : mz_H) (a0 : (Option Nat)) (a1 : (Option Nat)) : mz_Res Int32 :=
  mz_op (mz_fI h a1 5 1) fun v1 =>
  mz_op (mz_fI h a0 0 2) fun v2 =>
  mz_call (fn_X3_widens h v1 v2) fun v3 h =>
  if v3 = 0 then
    mz_chk ((0 : Int32) &&& 1 == 0) (mz_ret 0 h)
  else
    mz_op (mz_fI h a0 0 1) fun v4 =>
    mz_op (mz_fR h a0 0 0) fun v5 =>
    mz_op (mz_len h v5 1) fun v6 =>
    if v4 < v6 then
      mz_op (mz_fR h a0 0 0) fun v7 =>
      mz_op (mz_fI h a0 0 1) fun v8 =>
      mz_chk (mz_is h a1 5) <| mz_call (fn_X6_cellAt h a1 0 0) fun v9 h =>
      mz_op (mz_fI h a1 5 1) fun v10 =>
      mz_op (mz_fI h a0 0 2) fun v11 =>
      mz_call (fn_X3_widened h v9 v10 v11) fun v12 h =>
      mz_op (mz_sJ h v7 v8 v12) fun h =>
      mz_op (mz_fI h a0 0 1) fun v13 =>
      mz_op (mz_pF h a0 0 1 (Value.int (v13 + 1))) fun h =>
      mz_chk ((1 : Int32) &&& 1 == 1) (mz_ret 1 h)
    else
      mz_chk ((0 : Int32) &&& 1 == 0) (mz_ret 0 h)
set_option maxHeartbeats 4000000 in
set_option maxRecDepth 100000 in
theorem pf_X0_take_b0 (r : Int32) (Y : mz_Y p g RX0 cX0_take 2 (some .boolean) "take" (mz_AF h0) s m args meth c) (h : mz_H) (a0 : (Option Nat)) (a1 : (Option Nat)) (dc ds : Nat) (hr : fn_X0_take h a0 a1 = some (r, hf, dc, ds)) : mz_Go l g p e s m args below meth c 5 126 DC DS h0 (some (Value.int r)) hf 2 0 [(0, false, va_rf a0), (1, false, va_rf a1)] [] h dc ds := by
  unfold fn_X0_take at hr
  intro H locs cells slots ls hH hS hl hc hs
  have X := Y.1
  refine mz_aload_n X dX0_take_0 rfl (mz_at hl 1 rfl) ?_
  refine mz_getI X hH fl_RX0_26 dX0_take_1 hr (fun v1 hr => ?_)
  refine mz_aload_n X dX0_take_4 rfl (mz_at hl 0 rfl) ?_
  refine mz_getI X hH fl_RX0_15 dX0_take_5 hr (fun v2 hr => ?_)
  refine mz_kS Value.int X hH hS hl.1.1 [.int v1, .int v2] [] hr (ct_X3_widens l g h v1 v2) mb_RX0_29 im_X3_widens rfl (Nat.le_of_ble_eq_true rfl) ⟨Nat.le_of_ble_eq_true rfl, Nat.le_of_ble_eq_true rfl⟩ hc hs dX0_take_8 rfl (fun v3 h H locs cells slots dc ds hr hH hS hc hs => ?_)
  refine mz_if_eq X 26 dX0_take_11 (by decide) hr (fun hr => ?_) (fun hr => ?_)
  · refine lv_iconst (v := 0) X.1 X.2.1 dX0_take_26 (by decide) ?_
    exact mz_zret Y dX0_take_27 hH hS hc hs hr
  · refine mz_aload_n X dX0_take_14 rfl (mz_at hl 0 rfl) ?_
    refine mz_getI X hH fl_RX0_19 dX0_take_15 hr (fun v4 hr => ?_)
    refine mz_aload_n X dX0_take_18 rfl (mz_at hl 0 rfl) ?_
    refine mz_getR X hH fl_RX0_9 dX0_take_19 hr (fun v5 hr => ?_)
    refine mz_alen (t := 1) X hH (by decide) dX0_take_22 hr (fun v6 hr => ?_)
    refine mz_icmp_lt X 28 dX0_take_23 (by decide) hr (fun hr => ?_) (fun hr => ?_)
    · refine mz_aload_n X dX0_take_28 rfl (mz_at hl 0 rfl) ?_
      refine mz_getR X hH fl_RX0_9 dX0_take_29 hr (fun v7 hr => ?_)
      refine mz_aload_n X dX0_take_32 rfl (mz_at hl 0 rfl) ?_
      refine mz_getI X hH fl_RX0_19 dX0_take_33 hr (fun v8 hr => ?_)
      refine mz_aload_n X dX0_take_36 rfl (mz_at hl 1 rfl) ?_
      refine lv_iconst (v := 0) X.1 X.2.1 dX0_take_37 (by decide) ?_
      refine lv_iconst (v := 0) X.1 X.2.1 dX0_take_38 (by decide) ?_
      refine mz_kV Value.long X hH hS hl.1.1 [.int 0, .int 0] [.int v8, va_rf v7] hr (ct_X6_cellAt l g h a1 0 0) mb_RX0_35 rfl im_X6_cellAt rfl (Nat.le_of_ble_eq_true rfl) ⟨Nat.le_of_ble_eq_true rfl, Nat.le_of_ble_eq_true rfl⟩ hc hs dX0_take_39 rfl (fun v9 h H locs cells slots dc ds hr hH hS hc hs => ?_)
      refine mz_aload_n X dX0_take_42 rfl (mz_at hl 1 rfl) ?_
      refine mz_getI X hH fl_RX0_26 dX0_take_43 hr (fun v10 hr => ?_)
      refine mz_aload_n X dX0_take_46 rfl (mz_at hl 0 rfl) ?_
      refine mz_getI X hH fl_RX0_15 dX0_take_47 hr (fun v11 hr => ?_)
      refine mz_kS Value.long X hH hS hl.1.1 [.long v9, .int v10, .int v11] [.int v8, va_rf v7] hr (ct_X3_widened l g h v9 v10 v11) mb_RX0_39 im_X3_widened rfl (Nat.le_of_ble_eq_true rfl) ⟨Nat.le_of_ble_eq_true rfl, Nat.le_of_ble_eq_true rfl⟩ hc hs dX0_take_50 rfl (fun v12 h H locs cells slots dc ds hr hH hS hc hs => ?_)
      refine mz_last X hH hS dX0_take_53 hr (fun h H locs hr hH hS => ?_)
      refine mz_aload_n X dX0_take_54 rfl (mz_at hl 0 rfl) ?_
      refine mz_dupR X dX0_take_55 ?_
      refine mz_getI X hH fl_RX0_19 dX0_take_56 hr (fun v13 hr => ?_)
      refine lv_iconst (v := 1) X.1 X.2.1 dX0_take_59 (by decide) ?_
      refine lv_iadd X.1 X.2.1 dX0_take_60 ?_
      refine mz_put X hH hS fp_RX0_19 dX0_take_61 rfl rfl hr (fun h H locs hr hH hS => ?_)
      refine lv_iconst (v := 1) X.1 X.2.1 dX0_take_64 (by decide) ?_
      exact mz_zret Y dX0_take_65 hH hS hc hs hr
    · refine lv_iconst (v := 0) X.1 X.2.1 dX0_take_26 (by decide) ?_
      exact mz_zret Y dX0_take_27 hH hS hc hs hr
set_option maxRecDepth 100000 in
theorem ct_X0_take (l : Launch) (g : mz_G) (h : mz_H) (a0 : (Option Nat)) (a1 : (Option Nat)) (r : Int32) (hf : mz_H) (k n : Nat) (hr : fn_X0_take h a0 a1 = some (r, hf, k, n)) : mz_C l g yX0_take cX0_take 2 (some .boolean) 5 126 [va_rf a0, va_rf a1] h (some (Value.int r)) hf k n := by
  refine mz_met (as := [(false, va_rf a0), (false, va_rf a1)]) (plainFor_of_name (by decide)) (mz_c1 (mz_cat_rf _) (mz_c1 (mz_cat_rf _) mz_c0)) (Nat.le_of_ble_eq_true rfl) ?_
  intro p e s m args below meth c Y
  exact pf_X0_take_b0 r Y h a0 a1 _ _ hr
theorem dX0_joined_0 : decode cX0_joined 0 = .ok (.iload_n 0, 1) := by decide +kernel
theorem dX0_joined_1 : decode cX0_joined 1 = .ok (.tableswitch 74 1 4 #[31, 45, 59, 65], 31) := by decide +kernel
theorem dX0_joined_32 : decode cX0_joined 32 = .ok (.lload_n 3, 1) := by decide +kernel
theorem dX0_joined_33 : decode cX0_joined 33 = .ok (.lload_n 1, 1) := by decide +kernel
theorem dX0_joined_34 : decode cX0_joined 34 = .ok (.invokestatic 57, 3) := by decide +kernel
theorem dX0_joined_37 : decode cX0_joined 37 = .ok (.ifCond .eq 7, 3) := by decide +kernel
theorem dX0_joined_40 : decode cX0_joined 40 = .ok (.lload_n 3, 1) := by decide +kernel
theorem dX0_joined_41 : decode cX0_joined 41 = .ok (.goto 4, 3) := by decide +kernel
theorem dX0_joined_44 : decode cX0_joined 44 = .ok (.lload_n 1, 1) := by decide +kernel
theorem dX0_joined_45 : decode cX0_joined 45 = .ok (.lreturn, 1) := by decide +kernel
theorem dX0_joined_46 : decode cX0_joined 46 = .ok (.lload_n 1, 1) := by decide +kernel
theorem dX0_joined_47 : decode cX0_joined 47 = .ok (.lload_n 3, 1) := by decide +kernel
theorem dX0_joined_48 : decode cX0_joined 48 = .ok (.invokestatic 57, 3) := by decide +kernel
theorem dX0_joined_51 : decode cX0_joined 51 = .ok (.ifCond .eq 7, 3) := by decide +kernel
theorem dX0_joined_54 : decode cX0_joined 54 = .ok (.lload_n 3, 1) := by decide +kernel
theorem dX0_joined_55 : decode cX0_joined 55 = .ok (.goto 4, 3) := by decide +kernel
theorem dX0_joined_58 : decode cX0_joined 58 = .ok (.lload_n 1, 1) := by decide +kernel
theorem dX0_joined_59 : decode cX0_joined 59 = .ok (.lreturn, 1) := by decide +kernel
theorem dX0_joined_60 : decode cX0_joined 60 = .ok (.lload_n 1, 1) := by decide +kernel
theorem dX0_joined_61 : decode cX0_joined 61 = .ok (.lload_n 3, 1) := by decide +kernel
theorem dX0_joined_62 : decode cX0_joined 62 = .ok (.invokestatic 61, 3) := by decide +kernel
theorem dX0_joined_65 : decode cX0_joined 65 = .ok (.lreturn, 1) := by decide +kernel
theorem dX0_joined_66 : decode cX0_joined 66 = .ok (.lload_n 1, 1) := by decide +kernel
theorem dX0_joined_67 : decode cX0_joined 67 = .ok (.lload_n 3, 1) := by decide +kernel
theorem dX0_joined_68 : decode cX0_joined 68 = .ok (.invokestatic 65, 3) := by decide +kernel
theorem dX0_joined_71 : decode cX0_joined 71 = .ok (.invokestatic 61, 3) := by decide +kernel
theorem dX0_joined_74 : decode cX0_joined 74 = .ok (.lreturn, 1) := by decide +kernel
theorem dX0_joined_75 : decode cX0_joined 75 = .ok (.lload_n 1, 1) := by decide +kernel
theorem dX0_joined_76 : decode cX0_joined 76 = .ok (.lreturn, 1) := by decide +kernel
def fn_X0_joined (h : mz_H) (x0 : Int32) (j1 : Int64) (j3 : Int64) : mz_Res Int64 :=
  if x0 = 1 then
    mz_call (fn_X3_isLess h j3 j1) fun v1 h =>
    if v1 = 0 then
      mz_ret j1 h
    else
      mz_ret j3 h
  else
  if x0 = 2 then
    mz_call (fn_X3_isLess h j1 j3) fun v2 h =>
    if v2 = 0 then
      mz_ret j1 h
    else
      mz_ret j3 h
  else
  if x0 = 3 then
    mz_call (fn_X3_sum h j1 j3) fun v3 h =>
    mz_ret v3 h
  else
  if x0 = 4 then
    mz_call (fn_X3_nearestWhole h j3) fun v4 h =>
    mz_call (fn_X3_sum h j1 v4) fun v5 h =>
    mz_ret v5 h
  else
  mz_ret j1 h
set_option maxHeartbeats 4000000 in
set_option maxRecDepth 100000 in
theorem pf_X0_joined_b0 (r : Int64) (Y : mz_Y p g RX0 cX0_joined 5 (some .long) "joined" (mz_AF h0) s m args meth c) (h : mz_H) (x0 : Int32) (j1 : Int64) (j3 : Int64) (dc ds : Nat) (hr : fn_X0_joined h x0 j1 j3 = some (r, hf, dc, ds)) : mz_Go l g p e s m args below meth c 4 114 DC DS h0 (some (Value.long r)) hf 5 0 [(0, false, .int x0), (1, true, .long j1), (3, true, .long j3)] [] h dc ds := by
  unfold fn_X0_joined at hr
  intro H locs cells slots ls hH hS hl hc hs
  have X := Y.1
  refine lv_iload_n X.1 X.2.1 dX0_joined_0 rfl (mz_at hl 0 rfl) ?_
  by_cases q1 : x0 = 1
  · rw [if_pos q1] at hr
    refine mz_tin X dX0_joined_1 q1 32 (by decide) (by decide) rfl (by decide) ?_
    refine lv_lload_n X.1 X.2.1 dX0_joined_32 rfl (mz_at hl 2 rfl) ?_
    refine lv_lload_n X.1 X.2.1 dX0_joined_33 rfl (mz_at hl 1 rfl) ?_
    refine mz_kS Value.int X hH hS hl.1.1 [.long j3, .long j1] [] hr (ct_X3_isLess l g h j3 j1) mb_RX0_57 im_X3_isLess rfl (Nat.le_of_ble_eq_true rfl) ⟨Nat.le_of_ble_eq_true rfl, Nat.le_of_ble_eq_true rfl⟩ hc hs dX0_joined_34 rfl (fun v1 h H locs cells slots dc ds hr hH hS hc hs => ?_)
    refine mz_if_eq X 44 dX0_joined_37 (by decide) hr (fun hr => ?_) (fun hr => ?_)
    · refine lv_lload_n X.1 X.2.1 dX0_joined_44 rfl (mz_at hl 1 rfl) ?_
      exact mz_lret Y dX0_joined_45 hH hS hc hs hr
    · refine lv_lload_n X.1 X.2.1 dX0_joined_40 rfl (mz_at hl 2 rfl) ?_
      refine lv_goto (tgt := 45) X.1 X.2.1 dX0_joined_41 (by decide) ?_
      exact mz_lret Y dX0_joined_45 hH hS hc hs hr
  rw [if_neg q1] at hr
  by_cases q2 : x0 = 2
  · rw [if_pos q2] at hr
    refine mz_tin X dX0_joined_1 q2 46 (by decide) (by decide) rfl (by decide) ?_
    refine lv_lload_n X.1 X.2.1 dX0_joined_46 rfl (mz_at hl 1 rfl) ?_
    refine lv_lload_n X.1 X.2.1 dX0_joined_47 rfl (mz_at hl 2 rfl) ?_
    refine mz_kS Value.int X hH hS hl.1.1 [.long j1, .long j3] [] hr (ct_X3_isLess l g h j1 j3) mb_RX0_57 im_X3_isLess rfl (Nat.le_of_ble_eq_true rfl) ⟨Nat.le_of_ble_eq_true rfl, Nat.le_of_ble_eq_true rfl⟩ hc hs dX0_joined_48 rfl (fun v2 h H locs cells slots dc ds hr hH hS hc hs => ?_)
    refine mz_if_eq X 58 dX0_joined_51 (by decide) hr (fun hr => ?_) (fun hr => ?_)
    · refine lv_lload_n X.1 X.2.1 dX0_joined_58 rfl (mz_at hl 1 rfl) ?_
      exact mz_lret Y dX0_joined_59 hH hS hc hs hr
    · refine lv_lload_n X.1 X.2.1 dX0_joined_54 rfl (mz_at hl 2 rfl) ?_
      refine lv_goto (tgt := 59) X.1 X.2.1 dX0_joined_55 (by decide) ?_
      exact mz_lret Y dX0_joined_59 hH hS hc hs hr
  rw [if_neg q2] at hr
  by_cases q3 : x0 = 3
  · rw [if_pos q3] at hr
    refine mz_tin X dX0_joined_1 q3 60 (by decide) (by decide) rfl (by decide) ?_
    refine lv_lload_n X.1 X.2.1 dX0_joined_60 rfl (mz_at hl 1 rfl) ?_
    refine lv_lload_n X.1 X.2.1 dX0_joined_61 rfl (mz_at hl 2 rfl) ?_
    refine mz_kS Value.long X hH hS hl.1.1 [.long j1, .long j3] [] hr (ct_X3_sum l g h j1 j3) mb_RX0_61 im_X3_sum rfl (Nat.le_of_ble_eq_true rfl) ⟨Nat.le_of_ble_eq_true rfl, Nat.le_of_ble_eq_true rfl⟩ hc hs dX0_joined_62 rfl (fun v3 h H locs cells slots dc ds hr hH hS hc hs => ?_)
    exact mz_lret Y dX0_joined_65 hH hS hc hs hr
  rw [if_neg q3] at hr
  by_cases q4 : x0 = 4
  · rw [if_pos q4] at hr
    refine mz_tin X dX0_joined_1 q4 66 (by decide) (by decide) rfl (by decide) ?_
    refine lv_lload_n X.1 X.2.1 dX0_joined_66 rfl (mz_at hl 1 rfl) ?_
    refine lv_lload_n X.1 X.2.1 dX0_joined_67 rfl (mz_at hl 2 rfl) ?_
    refine mz_kS Value.long X hH hS hl.1.1 [.long j3] [.long j1] hr (ct_X3_nearestWhole l g h j3) mb_RX0_65 im_X3_nearestWhole rfl (Nat.le_of_ble_eq_true rfl) ⟨Nat.le_of_ble_eq_true rfl, Nat.le_of_ble_eq_true rfl⟩ hc hs dX0_joined_68 rfl (fun v4 h H locs cells slots dc ds hr hH hS hc hs => ?_)
    refine mz_kS Value.long X hH hS hl.1.1 [.long j1, .long v4] [] hr (ct_X3_sum l g h j1 v4) mb_RX0_61 im_X3_sum rfl (Nat.le_of_ble_eq_true rfl) ⟨Nat.le_of_ble_eq_true rfl, Nat.le_of_ble_eq_true rfl⟩ hc hs dX0_joined_71 rfl (fun v5 h H locs cells slots dc ds hr hH hS hc hs => ?_)
    exact mz_lret Y dX0_joined_74 hH hS hc hs hr
  rw [if_neg q4] at hr
  have kd : W p l e ({ frames := 4, cells := DC, slots := DS, locals := 114 }) s m args below meth c H locs cells slots (MQ below (mz_Q g h0 (some (Value.long r)) hf) args s DC DS (mz_AF h0)) (F0 m 75 ls []) := by
    refine lv_lload_n X.1 X.2.1 dX0_joined_75 rfl (mz_at hl 1 rfl) ?_
    exact mz_lret Y dX0_joined_76 hH hS hc hs hr
  have t1 : ¬ (x0 : Int32).toInt = 1 := fun z => q1 (mz_ti 1 (by decide) z)
  have t2 : ¬ (x0 : Int32).toInt = 2 := fun z => q2 (mz_ti 2 (by decide) z)
  have t3 : ¬ (x0 : Int32).toInt = 3 := fun z => q3 (mz_ti 3 (by decide) z)
  have t4 : ¬ (x0 : Int32).toInt = 4 := fun z => q4 (mz_ti 4 (by decide) z)
  exact mz_tout X dX0_joined_1 75 (by omega) (by decide) kd
set_option maxRecDepth 100000 in
theorem ct_X0_joined (l : Launch) (g : mz_G) (h : mz_H) (x0 : Int32) (j1 : Int64) (j3 : Int64) (r : Int64) (hf : mz_H) (k n : Nat) (hr : fn_X0_joined h x0 j1 j3 = some (r, hf, k, n)) : mz_C l g yX0_joined cX0_joined 5 (some .long) 4 114 [.int x0, .long j1, .long j3] h (some (Value.long r)) hf k n := by
  refine mz_met (as := [(false, .int x0), (true, .long j1), (true, .long j3)]) (plainFor_of_name (by decide)) (mz_c1 rfl (mz_c1 rfl (mz_c1 rfl mz_c0))) (Nat.le_of_ble_eq_true rfl) ?_
  intro p e s m args below meth c Y
  exact pf_X0_joined_b0 r Y h x0 j1 j3 _ _ hr
theorem dX0_folded_0 : decode cX0_folded 0 = .ok (.iload_n 1, 1) := by decide +kernel
theorem dX0_folded_1 : decode cX0_folded 1 = .ok (.ifCond .lt 8, 3) := by decide +kernel
theorem dX0_folded_4 : decode cX0_folded 4 = .ok (.iload_n 1, 1) := by decide +kernel
theorem dX0_folded_5 : decode cX0_folded 5 = .ok (.iconst 4, 1) := by decide +kernel
theorem dX0_folded_6 : decode cX0_folded 6 = .ok (.if_icmp .le 7, 3) := by decide +kernel
theorem dX0_folded_9 : decode cX0_folded 9 = .ok (.ldc2_w 43, 3) := by decide +kernel
theorem dX0_folded_12 : decode cX0_folded 12 = .ok (.lreturn, 1) := by decide +kernel
theorem dX0_folded_13 : decode cX0_folded 13 = .ok (.iload_n 1, 1) := by decide +kernel
theorem dX0_folded_14 : decode cX0_folded 14 = .ok (.iconst 1, 1) := by decide +kernel
theorem dX0_folded_15 : decode cX0_folded 15 = .ok (.if_icmp .eq 8, 3) := by decide +kernel
theorem dX0_folded_18 : decode cX0_folded 18 = .ok (.iload_n 1, 1) := by decide +kernel
theorem dX0_folded_19 : decode cX0_folded 19 = .ok (.iconst 2, 1) := by decide +kernel
theorem dX0_folded_20 : decode cX0_folded 20 = .ok (.if_icmp .ne 7, 3) := by decide +kernel
theorem dX0_folded_23 : decode cX0_folded 23 = .ok (.iconst 1, 1) := by decide +kernel
theorem dX0_folded_24 : decode cX0_folded 24 = .ok (.goto 4, 3) := by decide +kernel
theorem dX0_folded_27 : decode cX0_folded 27 = .ok (.iconst 0, 1) := by decide +kernel
theorem dX0_folded_28 : decode cX0_folded 28 = .ok (.istore_n 2, 1) := by decide +kernel
theorem dX0_folded_29 : decode cX0_folded 29 = .ok (.iconst 0, 1) := by decide +kernel
theorem dX0_folded_30 : decode cX0_folded 30 = .ok (.istore_n 3, 1) := by decide +kernel
theorem dX0_folded_31 : decode cX0_folded 31 = .ok (.lconst 0, 1) := by decide +kernel
theorem dX0_folded_32 : decode cX0_folded 32 = .ok (.lstore 4, 2) := by decide +kernel
theorem dX0_folded_34 : decode cX0_folded 34 = .ok (.iconst 0, 1) := by decide +kernel
theorem dX0_folded_35 : decode cX0_folded 35 = .ok (.istore 6, 2) := by decide +kernel
theorem dX0_folded_37 : decode cX0_folded 37 = .ok (.iload 6, 2) := by decide +kernel
theorem dX0_folded_39 : decode cX0_folded 39 = .ok (.aload_n 0, 1) := by decide +kernel
theorem dX0_folded_40 : decode cX0_folded 40 = .ok (.getfield 19, 3) := by decide +kernel
theorem dX0_folded_43 : decode cX0_folded 43 = .ok (.if_icmp .ge 61, 3) := by decide +kernel
theorem dX0_folded_46 : decode cX0_folded 46 = .ok (.aload_n 0, 1) := by decide +kernel
theorem dX0_folded_47 : decode cX0_folded 47 = .ok (.getfield 9, 3) := by decide +kernel
theorem dX0_folded_50 : decode cX0_folded 50 = .ok (.iload 6, 2) := by decide +kernel
theorem dX0_folded_52 : decode cX0_folded 52 = .ok (.laload, 1) := by decide +kernel
theorem dX0_folded_53 : decode cX0_folded 53 = .ok (.aload_n 0, 1) := by decide +kernel
theorem dX0_folded_54 : decode cX0_folded 54 = .ok (.getfield 15, 3) := by decide +kernel
theorem dX0_folded_57 : decode cX0_folded 57 = .ok (.bipush 6, 2) := by decide +kernel
theorem dX0_folded_59 : decode cX0_folded 59 = .ok (.invokestatic 39, 3) := by decide +kernel
theorem dX0_folded_62 : decode cX0_folded 62 = .ok (.lstore 7, 2) := by decide +kernel
theorem dX0_folded_64 : decode cX0_folded 64 = .ok (.lload 7, 2) := by decide +kernel
theorem dX0_folded_66 : decode cX0_folded 66 = .ok (.invokestatic 45, 3) := by decide +kernel
theorem dX0_folded_69 : decode cX0_folded 69 = .ok (.ifCond .eq 29, 3) := by decide +kernel
theorem dX0_folded_72 : decode cX0_folded 72 = .ok (.iload_n 2, 1) := by decide +kernel
theorem dX0_folded_73 : decode cX0_folded 73 = .ok (.ifCond .eq 12, 3) := by decide +kernel
theorem dX0_folded_76 : decode cX0_folded 76 = .ok (.iload_n 3, 1) := by decide +kernel
theorem dX0_folded_77 : decode cX0_folded 77 = .ok (.ifCond .ne 8, 3) := by decide +kernel
theorem dX0_folded_80 : decode cX0_folded 80 = .ok (.lload 7, 2) := by decide +kernel
theorem dX0_folded_82 : decode cX0_folded 82 = .ok (.goto 11, 3) := by decide +kernel
theorem dX0_folded_85 : decode cX0_folded 85 = .ok (.iload_n 1, 1) := by decide +kernel
theorem dX0_folded_86 : decode cX0_folded 86 = .ok (.lload 4, 2) := by decide +kernel
theorem dX0_folded_88 : decode cX0_folded 88 = .ok (.lload 7, 2) := by decide +kernel
theorem dX0_folded_90 : decode cX0_folded 90 = .ok (.invokestatic 49, 3) := by decide +kernel
theorem dX0_folded_93 : decode cX0_folded 93 = .ok (.lstore 4, 2) := by decide +kernel
theorem dX0_folded_95 : decode cX0_folded 95 = .ok (.iinc 3 1, 3) := by decide +kernel
theorem dX0_folded_98 : decode cX0_folded 98 = .ok (.iinc 6 1, 3) := by decide +kernel
theorem dX0_folded_101 : decode cX0_folded 101 = .ok (.goto (-64), 3) := by decide +kernel
theorem dX0_folded_104 : decode cX0_folded 104 = .ok (.iload_n 1, 1) := by decide +kernel
theorem dX0_folded_105 : decode cX0_folded 105 = .ok (.ifCond .ne 10, 3) := by decide +kernel
theorem dX0_folded_108 : decode cX0_folded 108 = .ok (.iload_n 3, 1) := by decide +kernel
theorem dX0_folded_109 : decode cX0_folded 109 = .ok (.i2l, 1) := by decide +kernel
theorem dX0_folded_110 : decode cX0_folded 110 = .ok (.iconst 0, 1) := by decide +kernel
theorem dX0_folded_111 : decode cX0_folded 111 = .ok (.invokestatic 53, 3) := by decide +kernel
theorem dX0_folded_114 : decode cX0_folded 114 = .ok (.lreturn, 1) := by decide +kernel
theorem dX0_folded_115 : decode cX0_folded 115 = .ok (.iload_n 2, 1) := by decide +kernel
theorem dX0_folded_116 : decode cX0_folded 116 = .ok (.ifCond .eq 13, 3) := by decide +kernel
theorem dX0_folded_119 : decode cX0_folded 119 = .ok (.iload_n 3, 1) := by decide +kernel
theorem dX0_folded_120 : decode cX0_folded 120 = .ok (.ifCond .ne 9, 3) := by decide +kernel
theorem dX0_folded_123 : decode cX0_folded 123 = .ok (.ldc2_w 43, 3) := by decide +kernel
theorem dX0_folded_126 : decode cX0_folded 126 = .ok (.goto 5, 3) := by decide +kernel
theorem dX0_folded_129 : decode cX0_folded 129 = .ok (.lload 4, 2) := by decide +kernel
theorem dX0_folded_131 : decode cX0_folded 131 = .ok (.lreturn, 1) := by decide +kernel
def fn_X0_folded_b98 (rc37 : mz_H → (Option Nat) → Int32 → Int32 → Int32 → Int64 → Int32 → mz_Res Int64) (h : mz_H) (a0 : (Option Nat)) (x1 : Int32) (x2 : Int32) (x3 : Int32) (j4 : Int64) (x6 : Int32) : mz_Res Int64 :=
  mz_op (some (x6 + 1)) fun v1 =>
  rc37 h a0 x1 x2 x3 j4 v1
set_option maxHeartbeats 4000000 in
set_option maxRecDepth 100000 in
theorem pf_X0_folded_b98 (r : Int64) (Y : mz_Y p g RX0 cX0_folded 9 (some .long) "folded" (mz_AF h0) s m args meth c) {rc37 : mz_H → (Option Nat) → Int32 → Int32 → Int32 → Int64 → Int32 → mz_Res Int64} (hrc37 : ∀ (h : mz_H) (a0 : (Option Nat)) (x1 : Int32) (x2 : Int32) (x3 : Int32) (j4 : Int64) (x6 : Int32) (dc ds : Nat), rc37 h a0 x1 x2 x3 j4 x6 = some (r, hf, dc, ds) → mz_Go l g p e s m args below meth c 5 138 DC DS h0 (some (Value.long r)) hf 9 37 [(0, false, va_rf a0), (1, false, .int x1), (2, false, .int x2), (3, false, .int x3), (4, true, .long j4), (6, false, .int x6)] [] h dc ds) (h : mz_H) (a0 : (Option Nat)) (x1 : Int32) (x2 : Int32) (x3 : Int32) (j4 : Int64) (x6 : Int32) (dc ds : Nat) (hr : fn_X0_folded_b98 rc37 h a0 x1 x2 x3 j4 x6 = some (r, hf, dc, ds)) : mz_Go l g p e s m args below meth c 5 138 DC DS h0 (some (Value.long r)) hf 9 98 [(0, false, va_rf a0), (1, false, .int x1), (2, false, .int x2), (3, false, .int x3), (4, true, .long j4), (6, false, .int x6)] [] h dc ds := by
  unfold fn_X0_folded_b98 at hr
  intro H locs cells slots ls hH hS hl hc hs
  have X := Y.1
  obtain ⟨v1, hv1, hr⟩ := mz_op_some hr
  have hv1 := Option.some.inj hv1
  refine mz_iinc (k := 5) X [(6, false, .int v1), (0, false, va_rf a0), (1, false, .int x1), (2, false, .int x2), (3, false, .int x3), (4, true, .long j4)] v1 dX0_folded_98 hl rfl hv1 (by decide) rfl (fun ls hl => ?_)
  refine lv_goto (tgt := 37) X.1 X.2.1 dX0_folded_101 (by decide) ?_
  exact hrc37 h a0 x1 x2 x3 j4 v1 _ _ hr H locs cells slots ls hH hS (mz_sub hl [1, 2, 3, 4, 5, 0] rfl) hc hs
def fn_X0_folded_b93 (rc37 : mz_H → (Option Nat) → Int32 → Int32 → Int32 → Int64 → Int32 → mz_Res Int64) (h : mz_H) (a0 : (Option Nat)) (x1 : Int32) (x2 : Int32) (x3 : Int32) (x6 : Int32) (s0 : Int64) : mz_Res Int64 :=
  mz_op (some (x3 + 1)) fun v1 =>
  fn_X0_folded_b98 rc37 h a0 x1 x2 v1 s0 x6
set_option maxHeartbeats 4000000 in
set_option maxRecDepth 100000 in
theorem pf_X0_folded_b93 (r : Int64) (Y : mz_Y p g RX0 cX0_folded 9 (some .long) "folded" (mz_AF h0) s m args meth c) {rc37 : mz_H → (Option Nat) → Int32 → Int32 → Int32 → Int64 → Int32 → mz_Res Int64} (hrc37 : ∀ (h : mz_H) (a0 : (Option Nat)) (x1 : Int32) (x2 : Int32) (x3 : Int32) (j4 : Int64) (x6 : Int32) (dc ds : Nat), rc37 h a0 x1 x2 x3 j4 x6 = some (r, hf, dc, ds) → mz_Go l g p e s m args below meth c 5 138 DC DS h0 (some (Value.long r)) hf 9 37 [(0, false, va_rf a0), (1, false, .int x1), (2, false, .int x2), (3, false, .int x3), (4, true, .long j4), (6, false, .int x6)] [] h dc ds) (h : mz_H) (a0 : (Option Nat)) (x1 : Int32) (x2 : Int32) (x3 : Int32) (x6 : Int32) (s0 : Int64) (dc ds : Nat) (hr : fn_X0_folded_b93 rc37 h a0 x1 x2 x3 x6 s0 = some (r, hf, dc, ds)) : mz_Go l g p e s m args below meth c 5 138 DC DS h0 (some (Value.long r)) hf 9 93 [(0, false, va_rf a0), (1, false, .int x1), (2, false, .int x2), (3, false, .int x3), (6, false, .int x6)] [.long s0] h dc ds := by
  unfold fn_X0_folded_b93 at hr
  intro H locs cells slots ls hH hS hl hc hs
  have X := Y.1
  refine mz_lstore X [(4, true, .long s0), (0, false, va_rf a0), (1, false, .int x1), (2, false, .int x2), (3, false, .int x3), (6, false, .int x6)] dX0_folded_93 hl (by decide) rfl (fun ls hl => ?_)
  obtain ⟨v1, hv1, hr⟩ := mz_op_some hr
  have hv1 := Option.some.inj hv1
  refine mz_iinc (k := 4) X [(3, false, .int v1), (4, true, .long s0), (0, false, va_rf a0), (1, false, .int x1), (2, false, .int x2), (6, false, .int x6)] v1 dX0_folded_95 hl rfl hv1 (by decide) rfl (fun ls hl => ?_)
  exact pf_X0_folded_b98 r Y hrc37 h a0 x1 x2 v1 s0 x6 _ _ hr H locs cells slots ls hH hS (mz_sub hl [2, 3, 4, 0, 1, 5] rfl) hc hs
def fn_X0_folded_b85 (rc37 : mz_H → (Option Nat) → Int32 → Int32 → Int32 → Int64 → Int32 → mz_Res Int64) (h : mz_H) (a0 : (Option Nat)) (x1 : Int32) (x2 : Int32) (x3 : Int32) (j4 : Int64) (x6 : Int32) (j7 : Int64) : mz_Res Int64 :=
  mz_call (fn_X0_joined h x1 j4 j7) fun v1 h =>
  fn_X0_folded_b93 rc37 h a0 x1 x2 x3 x6 v1
set_option maxHeartbeats 4000000 in
set_option maxRecDepth 100000 in
theorem pf_X0_folded_b85 (r : Int64) (Y : mz_Y p g RX0 cX0_folded 9 (some .long) "folded" (mz_AF h0) s m args meth c) {rc37 : mz_H → (Option Nat) → Int32 → Int32 → Int32 → Int64 → Int32 → mz_Res Int64} (hrc37 : ∀ (h : mz_H) (a0 : (Option Nat)) (x1 : Int32) (x2 : Int32) (x3 : Int32) (j4 : Int64) (x6 : Int32) (dc ds : Nat), rc37 h a0 x1 x2 x3 j4 x6 = some (r, hf, dc, ds) → mz_Go l g p e s m args below meth c 5 138 DC DS h0 (some (Value.long r)) hf 9 37 [(0, false, va_rf a0), (1, false, .int x1), (2, false, .int x2), (3, false, .int x3), (4, true, .long j4), (6, false, .int x6)] [] h dc ds) (h : mz_H) (a0 : (Option Nat)) (x1 : Int32) (x2 : Int32) (x3 : Int32) (j4 : Int64) (x6 : Int32) (j7 : Int64) (dc ds : Nat) (hr : fn_X0_folded_b85 rc37 h a0 x1 x2 x3 j4 x6 j7 = some (r, hf, dc, ds)) : mz_Go l g p e s m args below meth c 5 138 DC DS h0 (some (Value.long r)) hf 9 85 [(0, false, va_rf a0), (1, false, .int x1), (2, false, .int x2), (3, false, .int x3), (4, true, .long j4), (6, false, .int x6), (7, true, .long j7)] [] h dc ds := by
  unfold fn_X0_folded_b85 at hr
  intro H locs cells slots ls hH hS hl hc hs
  have X := Y.1
  refine lv_iload_n X.1 X.2.1 dX0_folded_85 rfl (mz_at hl 1 rfl) ?_
  refine lv_lload X.1 X.2.1 dX0_folded_86 (mz_at hl 4 rfl) ?_
  refine lv_lload X.1 X.2.1 dX0_folded_88 (mz_at hl 6 rfl) ?_
  refine mz_kS Value.long X hH hS hl.1.1 [.int x1, .long j4, .long j7] [] hr (ct_X0_joined l g h x1 j4 j7) mb_RX0_49 im_X0_joined rfl (Nat.le_of_ble_eq_true rfl) ⟨Nat.le_of_ble_eq_true rfl, Nat.le_of_ble_eq_true rfl⟩ hc hs dX0_folded_90 rfl (fun v1 h H locs cells slots dc ds hr hH hS hc hs => ?_)
  exact pf_X0_folded_b93 r Y hrc37 h a0 x1 x2 x3 x6 v1 _ _ hr H locs cells slots ls hH hS (mz_sub hl [0, 1, 2, 3, 5] rfl) hc hs
def fn_X0_folded_b37 : Nat → mz_H → (Option Nat) → Int32 → Int32 → Int32 → Int64 → Int32 → mz_Res Int64
  | 0, _, _, _, _, _, _, _ => none
  | n + 1, h, a0, x1, x2, x3, j4, x6 =>
    mz_op (mz_fI h a0 0 1) fun v1 =>
    if v1 ≤ x6 then
      if x1 = 0 then
        mz_call (fn_X3_ofWhole h ((x3 : Int32).toInt64) 0) fun v2 h =>
        mz_ret v2 h
      else
        if x2 = 0 then
          mz_ret j4 h
        else
          if x3 = 0 then
            mz_ret 9221120237041090560 h
          else
            mz_ret j4 h
    else
      mz_op (mz_fR h a0 0 0) fun v3 =>
      mz_op (mz_aJ h v3 x6) fun v4 =>
      mz_op (mz_fI h a0 0 2) fun v5 =>
      mz_call (fn_X3_widened h v4 v5 6) fun v6 h =>
      mz_call (fn_X3_isFinite h v6) fun v7 h =>
      if v7 = 0 then
        fn_X0_folded_b98 (fn_X0_folded_b37 n) h a0 x1 x2 x3 j4 x6
      else
        if x2 = 0 then
          fn_X0_folded_b85 (fn_X0_folded_b37 n) h a0 x1 x2 x3 j4 x6 v6
        else
          if x3 = 0 then
            fn_X0_folded_b93 (fn_X0_folded_b37 n) h a0 x1 x2 x3 x6 v6
          else
            fn_X0_folded_b85 (fn_X0_folded_b37 n) h a0 x1 x2 x3 j4 x6 v6
set_option maxHeartbeats 4000000 in
set_option maxRecDepth 100000 in
theorem pf_X0_folded_b37 (r : Int64) (Y : mz_Y p g RX0 cX0_folded 9 (some .long) "folded" (mz_AF h0) s m args meth c) : ∀ (n : Nat) (h : mz_H) (a0 : (Option Nat)) (x1 : Int32) (x2 : Int32) (x3 : Int32) (j4 : Int64) (x6 : Int32) (dc ds : Nat), fn_X0_folded_b37 n h a0 x1 x2 x3 j4 x6 = some (r, hf, dc, ds) → mz_Go l g p e s m args below meth c 5 138 DC DS h0 (some (Value.long r)) hf 9 37 [(0, false, va_rf a0), (1, false, .int x1), (2, false, .int x2), (3, false, .int x3), (4, true, .long j4), (6, false, .int x6)] [] h dc ds := by
  have X := Y.1
  intro n
  induction n with
  | zero => intro h a0 x1 x2 x3 j4 x6 dc ds hr; simp [fn_X0_folded_b37] at hr
  | succ n ih =>
    intro h a0 x1 x2 x3 j4 x6 dc ds hr
    rw [fn_X0_folded_b37] at hr
    intro H locs cells slots ls hH hS hl hc hs
    refine lv_iload X.1 X.2.1 dX0_folded_37 (mz_at hl 5 rfl) ?_
    refine mz_aload_n X dX0_folded_39 rfl (mz_at hl 0 rfl) ?_
    refine mz_getI X hH fl_RX0_19 dX0_folded_40 hr (fun v1 hr => ?_)
    refine mz_icmp_ge X 104 dX0_folded_43 (by decide) hr (fun hr => ?_) (fun hr => ?_)
    · refine lv_iload_n X.1 X.2.1 dX0_folded_104 rfl (mz_at hl 1 rfl) ?_
      refine mz_if_ne X 115 dX0_folded_105 (by decide) hr (fun hr => ?_) (fun hr => ?_)
      · refine lv_iload_n X.1 X.2.1 dX0_folded_115 rfl (mz_at hl 2 rfl) ?_
        refine mz_if_eq X 129 dX0_folded_116 (by decide) hr (fun hr => ?_) (fun hr => ?_)
        · refine lv_lload X.1 X.2.1 dX0_folded_129 (mz_at hl 4 rfl) ?_
          exact mz_lret Y dX0_folded_131 hH hS hc hs hr
        · refine lv_iload_n X.1 X.2.1 dX0_folded_119 rfl (mz_at hl 3 rfl) ?_
          refine mz_if_ne X 129 dX0_folded_120 (by decide) hr (fun hr => ?_) (fun hr => ?_)
          · refine lv_lload X.1 X.2.1 dX0_folded_129 (mz_at hl 4 rfl) ?_
            exact mz_lret Y dX0_folded_131 hH hS hc hs hr
          · refine mz_ldc2 (v := 9221120237041090560) X (mz_tb 846 (by decide +kernel) rfl) dX0_folded_123 ?_
            refine lv_goto (tgt := 131) X.1 X.2.1 dX0_folded_126 (by decide) ?_
            exact mz_lret Y dX0_folded_131 hH hS hc hs hr
      · refine lv_iload_n X.1 X.2.1 dX0_folded_108 rfl (mz_at hl 3 rfl) ?_
        refine lv_i2l (v := ((x3 : Int32).toInt64)) X.1 X.2.1 dX0_folded_109 rfl ?_
        refine lv_iconst (v := 0) X.1 X.2.1 dX0_folded_110 (by decide) ?_
        refine mz_kS Value.long X hH hS hl.1.1 [.long ((x3 : Int32).toInt64), .int 0] [] hr (ct_X3_ofWhole l g h ((x3 : Int32).toInt64) 0) mb_RX0_53 im_X3_ofWhole rfl (Nat.le_of_ble_eq_true rfl) ⟨Nat.le_of_ble_eq_true rfl, Nat.le_of_ble_eq_true rfl⟩ hc hs dX0_folded_111 rfl (fun v2 h H locs cells slots dc ds hr hH hS hc hs => ?_)
        exact mz_lret Y dX0_folded_114 hH hS hc hs hr
    · refine mz_aload_n X dX0_folded_46 rfl (mz_at hl 0 rfl) ?_
      refine mz_getR X hH fl_RX0_9 dX0_folded_47 hr (fun v3 hr => ?_)
      refine lv_iload X.1 X.2.1 dX0_folded_50 (mz_at hl 5 rfl) ?_
      refine mz_lald X hH dX0_folded_52 hr (fun v4 hr => ?_)
      refine mz_aload_n X dX0_folded_53 rfl (mz_at hl 0 rfl) ?_
      refine mz_getI X hH fl_RX0_15 dX0_folded_54 hr (fun v5 hr => ?_)
      refine lv_bipush (v := 6) X.1 X.2.1 dX0_folded_57 (by decide) ?_
      refine mz_kS Value.long X hH hS hl.1.1 [.long v4, .int v5, .int 6] [] hr (ct_X3_widened l g h v4 v5 6) mb_RX0_39 im_X3_widened rfl (Nat.le_of_ble_eq_true rfl) ⟨Nat.le_of_ble_eq_true rfl, Nat.le_of_ble_eq_true rfl⟩ hc hs dX0_folded_59 rfl (fun v6 h H locs cells slots dc ds hr hH hS hc hs => ?_)
      refine mz_lstore X [(7, true, .long v6), (0, false, va_rf a0), (1, false, .int x1), (2, false, .int x2), (3, false, .int x3), (4, true, .long j4), (6, false, .int x6)] dX0_folded_62 hl (by decide) rfl (fun ls hl => ?_)
      refine lv_lload X.1 X.2.1 dX0_folded_64 (mz_at hl 0 rfl) ?_
      refine mz_kS Value.int X hH hS hl.1.1 [.long v6] [] hr (ct_X3_isFinite l g h v6) mb_RX0_45 im_X3_isFinite rfl (Nat.le_of_ble_eq_true rfl) ⟨Nat.le_of_ble_eq_true rfl, Nat.le_of_ble_eq_true rfl⟩ hc hs dX0_folded_66 rfl (fun v7 h H locs cells slots dc ds hr hH hS hc hs => ?_)
      refine mz_if_eq X 98 dX0_folded_69 (by decide) hr (fun hr => ?_) (fun hr => ?_)
      · exact pf_X0_folded_b98 r Y ih h a0 x1 x2 x3 j4 x6 _ _ hr H locs cells slots ls hH hS (mz_sub hl [1, 2, 3, 4, 5, 6] rfl) hc hs
      · refine lv_iload_n X.1 X.2.1 dX0_folded_72 rfl (mz_at hl 3 rfl) ?_
        refine mz_if_eq X 85 dX0_folded_73 (by decide) hr (fun hr => ?_) (fun hr => ?_)
        · exact pf_X0_folded_b85 r Y ih h a0 x1 x2 x3 j4 x6 v6 _ _ hr H locs cells slots ls hH hS (mz_sub hl [1, 2, 3, 4, 5, 6, 0] rfl) hc hs
        · refine lv_iload_n X.1 X.2.1 dX0_folded_76 rfl (mz_at hl 4 rfl) ?_
          refine mz_if_ne X 85 dX0_folded_77 (by decide) hr (fun hr => ?_) (fun hr => ?_)
          · exact pf_X0_folded_b85 r Y ih h a0 x1 x2 x3 j4 x6 v6 _ _ hr H locs cells slots ls hH hS (mz_sub hl [1, 2, 3, 4, 5, 6, 0] rfl) hc hs
          · refine lv_lload X.1 X.2.1 dX0_folded_80 (mz_at hl 0 rfl) ?_
            refine lv_goto (tgt := 93) X.1 X.2.1 dX0_folded_82 (by decide) ?_
            exact pf_X0_folded_b93 r Y ih h a0 x1 x2 x3 x6 v6 _ _ hr H locs cells slots ls hH hS (mz_sub hl [1, 2, 3, 4, 6] rfl) hc hs
def fn_X0_folded_b28 (h : mz_H) (a0 : (Option Nat)) (x1 : Int32) (s0 : Int32) : mz_Res Int64 :=
  fn_X0_folded_b37 1001 h a0 x1 s0 0 0 0
set_option maxHeartbeats 4000000 in
set_option maxRecDepth 100000 in
theorem pf_X0_folded_b28 (r : Int64) (Y : mz_Y p g RX0 cX0_folded 9 (some .long) "folded" (mz_AF h0) s m args meth c) (h : mz_H) (a0 : (Option Nat)) (x1 : Int32) (s0 : Int32) (dc ds : Nat) (hr : fn_X0_folded_b28 h a0 x1 s0 = some (r, hf, dc, ds)) : mz_Go l g p e s m args below meth c 5 138 DC DS h0 (some (Value.long r)) hf 9 28 [(0, false, va_rf a0), (1, false, .int x1)] [.int s0] h dc ds := by
  unfold fn_X0_folded_b28 at hr
  intro H locs cells slots ls hH hS hl hc hs
  have X := Y.1
  refine mz_istore_n X [(2, false, .int s0), (0, false, va_rf a0), (1, false, .int x1)] dX0_folded_28 rfl hl (by decide) rfl (fun ls hl => ?_)
  refine lv_iconst (v := 0) X.1 X.2.1 dX0_folded_29 (by decide) ?_
  refine mz_istore_n X [(3, false, .int 0), (2, false, .int s0), (0, false, va_rf a0), (1, false, .int x1)] dX0_folded_30 rfl hl (by decide) rfl (fun ls hl => ?_)
  refine lv_lconst (v := 0) X.1 X.2.1 dX0_folded_31 (by decide) ?_
  refine mz_lstore X [(4, true, .long 0), (3, false, .int 0), (2, false, .int s0), (0, false, va_rf a0), (1, false, .int x1)] dX0_folded_32 hl (by decide) rfl (fun ls hl => ?_)
  refine lv_iconst (v := 0) X.1 X.2.1 dX0_folded_34 (by decide) ?_
  refine mz_istore X [(6, false, .int 0), (4, true, .long 0), (3, false, .int 0), (2, false, .int s0), (0, false, va_rf a0), (1, false, .int x1)] dX0_folded_35 hl (by decide) rfl (fun ls hl => ?_)
  exact pf_X0_folded_b37 r Y 1001 h a0 x1 s0 0 0 0 _ _ hr H locs cells slots ls hH hS (mz_sub hl [4, 5, 3, 2, 1, 0] rfl) hc hs
def fn_X0_folded_b23 (h : mz_H) (a0 : (Option Nat)) (x1 : Int32) : mz_Res Int64 :=
  fn_X0_folded_b28 h a0 x1 1
set_option maxHeartbeats 4000000 in
set_option maxRecDepth 100000 in
theorem pf_X0_folded_b23 (r : Int64) (Y : mz_Y p g RX0 cX0_folded 9 (some .long) "folded" (mz_AF h0) s m args meth c) (h : mz_H) (a0 : (Option Nat)) (x1 : Int32) (dc ds : Nat) (hr : fn_X0_folded_b23 h a0 x1 = some (r, hf, dc, ds)) : mz_Go l g p e s m args below meth c 5 138 DC DS h0 (some (Value.long r)) hf 9 23 [(0, false, va_rf a0), (1, false, .int x1)] [] h dc ds := by
  unfold fn_X0_folded_b23 at hr
  intro H locs cells slots ls hH hS hl hc hs
  have X := Y.1
  refine lv_iconst (v := 1) X.1 X.2.1 dX0_folded_23 (by decide) ?_
  refine lv_goto (tgt := 28) X.1 X.2.1 dX0_folded_24 (by decide) ?_
  exact pf_X0_folded_b28 r Y h a0 x1 1 _ _ hr H locs cells slots ls hH hS (mz_sub hl [0, 1] rfl) hc hs
def fn_X0_folded (h : mz_H) (a0 : (Option Nat)) (x1 : Int32) : mz_Res Int64 :=
  if x1 < 0 then
    mz_ret 9221120237041090560 h
  else
    if x1 ≤ 4 then
      if x1 = 1 then
        fn_X0_folded_b23 h a0 x1
      else
        if x1 = 2 then
          fn_X0_folded_b23 h a0 x1
        else
          fn_X0_folded_b28 h a0 x1 0
    else
      mz_ret 9221120237041090560 h
set_option maxHeartbeats 4000000 in
set_option maxRecDepth 100000 in
theorem pf_X0_folded_b0 (r : Int64) (Y : mz_Y p g RX0 cX0_folded 9 (some .long) "folded" (mz_AF h0) s m args meth c) (h : mz_H) (a0 : (Option Nat)) (x1 : Int32) (dc ds : Nat) (hr : fn_X0_folded h a0 x1 = some (r, hf, dc, ds)) : mz_Go l g p e s m args below meth c 5 138 DC DS h0 (some (Value.long r)) hf 9 0 [(0, false, va_rf a0), (1, false, .int x1)] [] h dc ds := by
  unfold fn_X0_folded at hr
  intro H locs cells slots ls hH hS hl hc hs
  have X := Y.1
  refine lv_iload_n X.1 X.2.1 dX0_folded_0 rfl (mz_at hl 1 rfl) ?_
  refine mz_if_lt X 9 dX0_folded_1 (by decide) hr (fun hr => ?_) (fun hr => ?_)
  · refine mz_ldc2 (v := 9221120237041090560) X (mz_tb 846 (by decide +kernel) rfl) dX0_folded_9 ?_
    exact mz_lret Y dX0_folded_12 hH hS hc hs hr
  · refine lv_iload_n X.1 X.2.1 dX0_folded_4 rfl (mz_at hl 1 rfl) ?_
    refine lv_iconst (v := 4) X.1 X.2.1 dX0_folded_5 (by decide) ?_
    refine mz_icmp_le X 13 dX0_folded_6 (by decide) hr (fun hr => ?_) (fun hr => ?_)
    · refine lv_iload_n X.1 X.2.1 dX0_folded_13 rfl (mz_at hl 1 rfl) ?_
      refine lv_iconst (v := 1) X.1 X.2.1 dX0_folded_14 (by decide) ?_
      refine mz_icmp_eq X 23 dX0_folded_15 (by decide) hr (fun hr => ?_) (fun hr => ?_)
      · exact pf_X0_folded_b23 r Y h a0 x1 _ _ hr H locs cells slots ls hH hS (mz_sub hl [0, 1] rfl) hc hs
      · refine lv_iload_n X.1 X.2.1 dX0_folded_18 rfl (mz_at hl 1 rfl) ?_
        refine lv_iconst (v := 2) X.1 X.2.1 dX0_folded_19 (by decide) ?_
        refine mz_icmp_ne X 27 dX0_folded_20 (by decide) hr (fun hr => ?_) (fun hr => ?_)
        · refine lv_iconst (v := 0) X.1 X.2.1 dX0_folded_27 (by decide) ?_
          exact pf_X0_folded_b28 r Y h a0 x1 0 _ _ hr H locs cells slots ls hH hS (mz_sub hl [0, 1] rfl) hc hs
        · exact pf_X0_folded_b23 r Y h a0 x1 _ _ hr H locs cells slots ls hH hS (mz_sub hl [0, 1] rfl) hc hs
    · refine mz_ldc2 (v := 9221120237041090560) X (mz_tb 846 (by decide +kernel) rfl) dX0_folded_9 ?_
      exact mz_lret Y dX0_folded_12 hH hS hc hs hr
set_option maxRecDepth 100000 in
theorem ct_X0_folded (l : Launch) (g : mz_G) (h : mz_H) (a0 : (Option Nat)) (x1 : Int32) (r : Int64) (hf : mz_H) (k n : Nat) (hr : fn_X0_folded h a0 x1 = some (r, hf, k, n)) : mz_C l g yX0_folded cX0_folded 9 (some .long) 5 138 [va_rf a0, .int x1] h (some (Value.long r)) hf k n := by
  refine mz_met (as := [(false, va_rf a0), (false, .int x1)]) (plainFor_of_name (by decide)) (mz_c1 (mz_cat_rf _) (mz_c1 rfl mz_c0)) (Nat.le_of_ble_eq_true rfl) ?_
  intro p e s m args below meth c Y
  exact pf_X0_folded_b0 r Y h a0 x1 _ _ hr
theorem dX11_init_0 : decode cX11_init 0 = .ok (.aload_n 0, 1) := by decide +kernel
theorem dX11_init_1 : decode cX11_init 1 = .ok (.invokespecial 1, 3) := by decide +kernel
theorem dX11_init_4 : decode cX11_init 4 = .ok (.aload_n 0, 1) := by decide +kernel
theorem dX11_init_5 : decode cX11_init 5 = .ok (.new 7, 3) := by decide +kernel
theorem dX11_init_8 : decode cX11_init 8 = .ok (.dup, 1) := by decide +kernel
theorem dX11_init_9 : decode cX11_init 9 = .ok (.invokespecial 9, 3) := by decide +kernel
theorem dX11_init_12 : decode cX11_init 12 = .ok (.putfield 10, 3) := by decide +kernel
theorem dX11_init_15 : decode cX11_init 15 = .ok (.aload_n 0, 1) := by decide +kernel
theorem dX11_init_16 : decode cX11_init 16 = .ok (.new 16, 3) := by decide +kernel
theorem dX11_init_19 : decode cX11_init 19 = .ok (.dup, 1) := by decide +kernel
theorem dX11_init_20 : decode cX11_init 20 = .ok (.invokespecial 18, 3) := by decide +kernel
theorem dX11_init_23 : decode cX11_init 23 = .ok (.putfield 19, 3) := by decide +kernel
theorem dX11_init_26 : decode cX11_init 26 = .ok (.aload_n 0, 1) := by decide +kernel
theorem dX11_init_27 : decode cX11_init 27 = .ok (.new 16, 3) := by decide +kernel
theorem dX11_init_30 : decode cX11_init 30 = .ok (.dup, 1) := by decide +kernel
theorem dX11_init_31 : decode cX11_init 31 = .ok (.invokespecial 18, 3) := by decide +kernel
theorem dX11_init_34 : decode cX11_init 34 = .ok (.putfield 23, 3) := by decide +kernel
theorem dX11_init_37 : decode cX11_init 37 = .ok (.aload_n 0, 1) := by decide +kernel
theorem dX11_init_38 : decode cX11_init 38 = .ok (.bipush 60, 2) := by decide +kernel
theorem dX11_init_40 : decode cX11_init 40 = .ok (.anewarray 26, 3) := by decide +kernel
theorem dX11_init_43 : decode cX11_init 43 = .ok (.putfield 28, 3) := by decide +kernel
theorem dX11_init_46 : decode cX11_init 46 = .ok (.aload_n 0, 1) := by decide +kernel
theorem dX11_init_47 : decode cX11_init 47 = .ok (.new 32, 3) := by decide +kernel
theorem dX11_init_50 : decode cX11_init 50 = .ok (.dup, 1) := by decide +kernel
theorem dX11_init_51 : decode cX11_init 51 = .ok (.invokespecial 34, 3) := by decide +kernel
theorem dX11_init_54 : decode cX11_init 54 = .ok (.putfield 35, 3) := by decide +kernel
theorem dX11_init_57 : decode cX11_init 57 = .ok (.aload_n 0, 1) := by decide +kernel
theorem dX11_init_58 : decode cX11_init 58 = .ok (.new 32, 3) := by decide +kernel
theorem dX11_init_61 : decode cX11_init 61 = .ok (.dup, 1) := by decide +kernel
theorem dX11_init_62 : decode cX11_init 62 = .ok (.invokespecial 34, 3) := by decide +kernel
theorem dX11_init_65 : decode cX11_init 65 = .ok (.putfield 39, 3) := by decide +kernel
theorem dX11_init_68 : decode cX11_init 68 = .ok (.aload_n 0, 1) := by decide +kernel
theorem dX11_init_69 : decode cX11_init 69 = .ok (.iconst 4, 1) := by decide +kernel
theorem dX11_init_70 : decode cX11_init 70 = .ok (.anewarray 42, 3) := by decide +kernel
theorem dX11_init_73 : decode cX11_init 73 = .ok (.putfield 44, 3) := by decide +kernel
theorem dX11_init_76 : decode cX11_init 76 = .ok (.return_, 1) := by decide +kernel
def fn_X11_init (h : mz_H) (a0 : (Option Nat)) : mz_Res Unit :=
  mz_chk (a0).isSome <|
  mz_oN h 9 5 [.null, .int 0, .null, .int 0, .null] fun v1 h =>
  mz_chk (mz_is h v1 9) <| mz_call (fn_X10_init h v1) fun _ h =>
  mz_op (mz_pF h a0 10 0 (va_rf v1)) fun h =>
  mz_oN h 6 7 [.null, .null, .int 0, .int 0, .int 0, .int 0, .int 0] fun v2 h =>
  mz_chk (mz_is h v2 6) <| mz_call (fn_X7_init h v2) fun _ h =>
  mz_op (mz_pF h a0 10 1 (va_rf v2)) fun h =>
  mz_oN h 6 7 [.null, .null, .int 0, .int 0, .int 0, .int 0, .int 0] fun v3 h =>
  mz_chk (mz_is h v3 6) <| mz_call (fn_X7_init h v3) fun _ h =>
  mz_op (mz_pF h a0 10 2 (va_rf v3)) fun h =>
  mz_aN h 17 60 (.inr (.inr (.inr (.inr (fun _ => none))))) fun v4 h =>
  mz_op (mz_pF h a0 10 3 (va_rf v4)) fun h =>
  mz_oN h 0 4 [.null, .int 0, .int 0, .int 0] fun v5 h =>
  mz_chk (mz_is h v5 0) <| mz_call (fn_X0_init h v5) fun _ h =>
  mz_op (mz_pF h a0 10 5 (va_rf v5)) fun h =>
  mz_oN h 0 4 [.null, .int 0, .int 0, .int 0] fun v6 h =>
  mz_chk (mz_is h v6 0) <| mz_call (fn_X0_init h v6) fun _ h =>
  mz_op (mz_pF h a0 10 6 (va_rf v6)) fun h =>
  mz_aN h 13 4 (.inr (.inr (.inr (.inr (fun _ => none))))) fun v7 h =>
  mz_op (mz_pF h a0 10 7 (va_rf v7)) fun h =>
  mz_ret () h
set_option maxHeartbeats 4000000 in
set_option maxRecDepth 100000 in
theorem pf_X11_init_b0 (r : Unit) (Y : mz_Y p g RX11 cX11_init 1 none "<init>" (mz_AF h0) s m args meth c) (h : mz_H) (a0 : (Option Nat)) (dc ds : Nat) (hr : fn_X11_init h a0 = some (r, hf, dc, ds)) : mz_Go l g p e s m args below meth c 3 62 DC DS h0 none hf 1 0 [(0, false, va_rf a0)] [] h dc ds := by
  unfold fn_X11_init at hr
  intro H locs cells slots ls hH hS hl hc hs
  have X := Y.1
  refine mz_aload_n X dX11_init_0 rfl (mz_at hl 0 rfl) ?_
  refine mz_oinit X hl.1.1 oi_RX11_1 (Nat.le_of_ble_eq_true rfl) ⟨Nat.le_of_ble_eq_true rfl, Nat.le_of_ble_eq_true rfl⟩ dX11_init_1 hr (fun hr => ?_)
  refine mz_aload_n X dX11_init_4 rfl (mz_at hl 0 rfl) ?_
  refine mz_kN X hH hS tyX10 rfl cl_9 tyX10_ok ⟨mz_tb 66 (by decide +kernel) rfl, mz_tb 67 (by decide +kernel) rfl, mz_tb 41 (by decide +kernel) rfl⟩ nw_9 dX11_init_5 hr hc hs (fun v1 h H cells slots dc ds hr hH hS hc hs => ?_)
  refine mz_dupR X dX11_init_8 ?_
  refine mz_kIN X hH hS hl.1.1 [] [va_rf v1, va_rf a0] hr (ct_X10_init l g h v1) mn_X10_init X.2.2.2.2.2.1.2.2.2.1 im_X10_init rfl rfl (Nat.le_of_ble_eq_true rfl) ⟨Nat.le_of_ble_eq_true rfl, Nat.le_of_ble_eq_true rfl⟩ hc hs dX11_init_9 rfl (fun _ h H locs cells slots dc ds hr hH hS hc hs => ?_)
  refine mz_putF X Y.2.2.2 hH hS fp_RX11_10 dX11_init_12 (mz_nrf _ _).1 (mz_nrf _ _).2 hr (fun h H locs hr hH hS => ?_)
  refine mz_aload_n X dX11_init_15 rfl (mz_at hl 0 rfl) ?_
  refine mz_kN X hH hS tyX7 rfl cl_6 tyX7_ok ⟨mz_tb 95 (by decide +kernel) rfl, mz_tb 96 (by decide +kernel) rfl, mz_tb 42 (by decide +kernel) rfl⟩ nw_6 dX11_init_16 hr hc hs (fun v2 h H cells slots dc ds hr hH hS hc hs => ?_)
  refine mz_dupR X dX11_init_19 ?_
  refine mz_kI X hH hS hl.1.1 [] [va_rf v2, va_rf a0] hr (ct_X7_init l g h v2) mb_RX11_18 im_X7_init rfl rfl (Nat.le_of_ble_eq_true rfl) ⟨Nat.le_of_ble_eq_true rfl, Nat.le_of_ble_eq_true rfl⟩ hc hs dX11_init_20 rfl (fun _ h H locs cells slots dc ds hr hH hS hc hs => ?_)
  refine mz_putF X Y.2.2.2 hH hS fp_RX11_19 dX11_init_23 (mz_nrf _ _).1 (mz_nrf _ _).2 hr (fun h H locs hr hH hS => ?_)
  refine mz_aload_n X dX11_init_26 rfl (mz_at hl 0 rfl) ?_
  refine mz_kN X hH hS tyX7 rfl cl_6 tyX7_ok ⟨mz_tb 95 (by decide +kernel) rfl, mz_tb 96 (by decide +kernel) rfl, mz_tb 42 (by decide +kernel) rfl⟩ nw_6 dX11_init_27 hr hc hs (fun v3 h H cells slots dc ds hr hH hS hc hs => ?_)
  refine mz_dupR X dX11_init_30 ?_
  refine mz_kI X hH hS hl.1.1 [] [va_rf v3, va_rf a0] hr (ct_X7_init l g h v3) mb_RX11_18 im_X7_init rfl rfl (Nat.le_of_ble_eq_true rfl) ⟨Nat.le_of_ble_eq_true rfl, Nat.le_of_ble_eq_true rfl⟩ hc hs dX11_init_31 rfl (fun _ h H locs cells slots dc ds hr hH hS hc hs => ?_)
  refine mz_putF X Y.2.2.2 hH hS fp_RX11_23 dX11_init_34 (mz_nrf _ _).1 (mz_nrf _ _).2 hr (fun h H locs hr hH hS => ?_)
  refine mz_aload_n X dX11_init_37 rfl (mz_at hl 0 rfl) ?_
  refine lv_bipush (v := 60) X.1 X.2.1 dX11_init_38 (by decide) ?_
  refine mz_kR (t := 17) X hH hS (by decide) rfl (by decide) (mz_tb 177 (by decide +kernel) rfl) dX11_init_40 hr hc hs (fun v4 h H cells slots dc ds hr hH hS hc hs => ?_)
  refine mz_putF X Y.2.2.2 hH hS fp_RX11_28 dX11_init_43 (mz_nra _ _).1 (mz_nra _ _).2 hr (fun h H locs hr hH hS => ?_)
  refine mz_aload_n X dX11_init_46 rfl (mz_at hl 0 rfl) ?_
  refine mz_kN X hH hS tyX0 rfl cl_0 tyX0_ok ⟨mz_tb 179 (by decide +kernel) rfl, mz_tb 180 (by decide +kernel) rfl, mz_tb 44 (by decide +kernel) rfl⟩ nw_0 dX11_init_47 hr hc hs (fun v5 h H cells slots dc ds hr hH hS hc hs => ?_)
  refine mz_dupR X dX11_init_50 ?_
  refine mz_kIN X hH hS hl.1.1 [] [va_rf v5, va_rf a0] hr (ct_X0_init l g h v5) mn_X0_init X.2.2.2.2.2.1.2.2.2.2.1 im_X0_init rfl rfl (Nat.le_of_ble_eq_true rfl) ⟨Nat.le_of_ble_eq_true rfl, Nat.le_of_ble_eq_true rfl⟩ hc hs dX11_init_51 rfl (fun _ h H locs cells slots dc ds hr hH hS hc hs => ?_)
  refine mz_put X hH hS fp_RX11_35 dX11_init_54 (mz_nrf _ _).1 (mz_nrf _ _).2 hr (fun h H locs hr hH hS => ?_)
  refine mz_aload_n X dX11_init_57 rfl (mz_at hl 0 rfl) ?_
  refine mz_kN X hH hS tyX0 rfl cl_0 tyX0_ok ⟨mz_tb 179 (by decide +kernel) rfl, mz_tb 180 (by decide +kernel) rfl, mz_tb 44 (by decide +kernel) rfl⟩ nw_0 dX11_init_58 hr hc hs (fun v6 h H cells slots dc ds hr hH hS hc hs => ?_)
  refine mz_dupR X dX11_init_61 ?_
  refine mz_kIN X hH hS hl.1.1 [] [va_rf v6, va_rf a0] hr (ct_X0_init l g h v6) mn_X0_init X.2.2.2.2.2.1.2.2.2.2.1 im_X0_init rfl rfl (Nat.le_of_ble_eq_true rfl) ⟨Nat.le_of_ble_eq_true rfl, Nat.le_of_ble_eq_true rfl⟩ hc hs dX11_init_62 rfl (fun _ h H locs cells slots dc ds hr hH hS hc hs => ?_)
  refine mz_put X hH hS fp_RX11_39 dX11_init_65 (mz_nrf _ _).1 (mz_nrf _ _).2 hr (fun h H locs hr hH hS => ?_)
  refine mz_aload_n X dX11_init_68 rfl (mz_at hl 0 rfl) ?_
  refine lv_iconst (v := 4) X.1 X.2.1 dX11_init_69 (by decide) ?_
  refine mz_kR (t := 13) X hH hS (by decide) rfl (by decide) (mz_tb 202 (by decide +kernel) rfl) dX11_init_70 hr hc hs (fun v7 h H cells slots dc ds hr hH hS hc hs => ?_)
  refine mz_putF X Y.2.2.2 hH hS fp_RX11_44 dX11_init_73 (mz_nra _ _).1 (mz_nra _ _).2 hr (fun h H locs hr hH hS => ?_)
  exact mz_vret Y dX11_init_76 hH hS hc hs hr
set_option maxRecDepth 100000 in
theorem ct_X11_init (l : Launch) (g : mz_G) (h : mz_H) (a0 : (Option Nat)) (r : Unit) (hf : mz_H) (k n : Nat) (hr : fn_X11_init h a0 = some (r, hf, k, n)) : mz_C l g yX11_init cX11_init 1 none 3 62 [va_rf a0] h none hf k n := by
  refine mz_met (as := [(false, va_rf a0)]) (plainFor_of_name (by decide)) (mz_c1 (mz_cat_rf _) mz_c0) (Nat.le_of_ble_eq_true rfl) ?_
  intro p e s m args below meth c Y
  exact pf_X11_init_b0 r Y h a0 _ _ hr
theorem dX11_mayBeParent_0 : decode cX11_mayBeParent 0 = .ok (.iload_n 0, 1) := by decide +kernel
theorem dX11_mayBeParent_1 : decode cX11_mayBeParent 1 = .ok (.iconst 5, 1) := by decide +kernel
theorem dX11_mayBeParent_2 : decode cX11_mayBeParent 2 = .ok (.if_icmp .ne 21, 3) := by decide +kernel
theorem dX11_mayBeParent_5 : decode cX11_mayBeParent 5 = .ok (.aload_n 1, 1) := by decide +kernel
theorem dX11_mayBeParent_6 : decode cX11_mayBeParent 6 = .ok (.ifnull 15, 3) := by decide +kernel
theorem dX11_mayBeParent_9 : decode cX11_mayBeParent 9 = .ok (.aload_n 1, 1) := by decide +kernel
theorem dX11_mayBeParent_10 : decode cX11_mayBeParent 10 = .ok (.getfield 72, 3) := by decide +kernel
theorem dX11_mayBeParent_13 : decode cX11_mayBeParent 13 = .ok (.iconst 4, 1) := by decide +kernel
theorem dX11_mayBeParent_14 : decode cX11_mayBeParent 14 = .ok (.if_icmp .ne 7, 3) := by decide +kernel
theorem dX11_mayBeParent_17 : decode cX11_mayBeParent 17 = .ok (.iconst 1, 1) := by decide +kernel
theorem dX11_mayBeParent_18 : decode cX11_mayBeParent 18 = .ok (.goto 4, 3) := by decide +kernel
theorem dX11_mayBeParent_21 : decode cX11_mayBeParent 21 = .ok (.iconst 0, 1) := by decide +kernel
theorem dX11_mayBeParent_22 : decode cX11_mayBeParent 22 = .ok (.ireturn, 1) := by decide +kernel
theorem dX11_mayBeParent_23 : decode cX11_mayBeParent 23 = .ok (.aload_n 1, 1) := by decide +kernel
theorem dX11_mayBeParent_24 : decode cX11_mayBeParent 24 = .ok (.ifnonnull 5, 3) := by decide +kernel
theorem dX11_mayBeParent_27 : decode cX11_mayBeParent 27 = .ok (.iconst 1, 1) := by decide +kernel
theorem dX11_mayBeParent_28 : decode cX11_mayBeParent 28 = .ok (.ireturn, 1) := by decide +kernel
theorem dX11_mayBeParent_29 : decode cX11_mayBeParent 29 = .ok (.iload_n 0, 1) := by decide +kernel
theorem dX11_mayBeParent_30 : decode cX11_mayBeParent 30 = .ok (.ifCond .eq 8, 3) := by decide +kernel
theorem dX11_mayBeParent_33 : decode cX11_mayBeParent 33 = .ok (.iload_n 0, 1) := by decide +kernel
theorem dX11_mayBeParent_34 : decode cX11_mayBeParent 34 = .ok (.iconst 1, 1) := by decide +kernel
theorem dX11_mayBeParent_35 : decode cX11_mayBeParent 35 = .ok (.if_icmp .ne 7, 3) := by decide +kernel
theorem dX11_mayBeParent_38 : decode cX11_mayBeParent 38 = .ok (.iconst 1, 1) := by decide +kernel
theorem dX11_mayBeParent_39 : decode cX11_mayBeParent 39 = .ok (.goto 4, 3) := by decide +kernel
theorem dX11_mayBeParent_42 : decode cX11_mayBeParent 42 = .ok (.iconst 0, 1) := by decide +kernel
theorem dX11_mayBeParent_43 : decode cX11_mayBeParent 43 = .ok (.istore_n 2, 1) := by decide +kernel
theorem dX11_mayBeParent_44 : decode cX11_mayBeParent 44 = .ok (.iload_n 2, 1) := by decide +kernel
theorem dX11_mayBeParent_45 : decode cX11_mayBeParent 45 = .ok (.ifCond .eq 22, 3) := by decide +kernel
theorem dX11_mayBeParent_48 : decode cX11_mayBeParent 48 = .ok (.aload_n 1, 1) := by decide +kernel
theorem dX11_mayBeParent_49 : decode cX11_mayBeParent 49 = .ok (.getfield 72, 3) := by decide +kernel
theorem dX11_mayBeParent_52 : decode cX11_mayBeParent 52 = .ok (.ifCond .eq 11, 3) := by decide +kernel
theorem dX11_mayBeParent_55 : decode cX11_mayBeParent 55 = .ok (.aload_n 1, 1) := by decide +kernel
theorem dX11_mayBeParent_56 : decode cX11_mayBeParent 56 = .ok (.getfield 72, 3) := by decide +kernel
theorem dX11_mayBeParent_59 : decode cX11_mayBeParent 59 = .ok (.iconst 1, 1) := by decide +kernel
theorem dX11_mayBeParent_60 : decode cX11_mayBeParent 60 = .ok (.if_icmp .ne 7, 3) := by decide +kernel
theorem dX11_mayBeParent_63 : decode cX11_mayBeParent 63 = .ok (.iconst 1, 1) := by decide +kernel
theorem dX11_mayBeParent_64 : decode cX11_mayBeParent 64 = .ok (.goto 4, 3) := by decide +kernel
theorem dX11_mayBeParent_67 : decode cX11_mayBeParent 67 = .ok (.iconst 0, 1) := by decide +kernel
theorem dX11_mayBeParent_68 : decode cX11_mayBeParent 68 = .ok (.ireturn, 1) := by decide +kernel
def fn_X11_mayBeParent_b63 (h : mz_H) : mz_Res Int32 :=
  mz_chk ((1 : Int32) &&& 1 == 1) (mz_ret 1 h)
set_option maxHeartbeats 4000000 in
set_option maxRecDepth 100000 in
theorem pf_X11_mayBeParent_b63 (r : Int32) (Y : mz_Y p g RX11 cX11_mayBeParent 3 (some .boolean) "mayBeParent" (mz_AF h0) s m args meth c) (h : mz_H) (dc ds : Nat) (hr : fn_X11_mayBeParent_b63 h = some (r, hf, dc, ds)) : mz_Go l g p e s m args below meth c 0 0 DC DS h0 (some (Value.int r)) hf 3 63 [] [] h dc ds := by
  unfold fn_X11_mayBeParent_b63 at hr
  intro H locs cells slots ls hH hS hl hc hs
  have X := Y.1
  refine lv_iconst (v := 1) X.1 X.2.1 dX11_mayBeParent_63 (by decide) ?_
  refine lv_goto (tgt := 68) X.1 X.2.1 dX11_mayBeParent_64 (by decide) ?_
  exact mz_zret Y dX11_mayBeParent_68 hH hS hc hs hr
def fn_X11_mayBeParent_b43 (h : mz_H) (a1 : (Option Nat)) (s0 : Int32) : mz_Res Int32 :=
  if s0 = 0 then
    mz_chk ((0 : Int32) &&& 1 == 0) (mz_ret 0 h)
  else
    mz_op (mz_fI h a1 8 0) fun v1 =>
    if v1 = 0 then
      fn_X11_mayBeParent_b63 h
    else
      mz_op (mz_fI h a1 8 0) fun v2 =>
      if v2 = 1 then
        fn_X11_mayBeParent_b63 h
      else
        mz_chk ((0 : Int32) &&& 1 == 0) (mz_ret 0 h)
set_option maxHeartbeats 4000000 in
set_option maxRecDepth 100000 in
theorem pf_X11_mayBeParent_b43 (r : Int32) (Y : mz_Y p g RX11 cX11_mayBeParent 3 (some .boolean) "mayBeParent" (mz_AF h0) s m args meth c) (h : mz_H) (a1 : (Option Nat)) (s0 : Int32) (dc ds : Nat) (hr : fn_X11_mayBeParent_b43 h a1 s0 = some (r, hf, dc, ds)) : mz_Go l g p e s m args below meth c 0 0 DC DS h0 (some (Value.int r)) hf 3 43 [(1, false, va_rf a1)] [.int s0] h dc ds := by
  unfold fn_X11_mayBeParent_b43 at hr
  intro H locs cells slots ls hH hS hl hc hs
  have X := Y.1
  refine mz_istore_n X [(2, false, .int s0), (1, false, va_rf a1)] dX11_mayBeParent_43 rfl hl (by decide) rfl (fun ls hl => ?_)
  refine lv_iload_n X.1 X.2.1 dX11_mayBeParent_44 rfl (mz_at hl 0 rfl) ?_
  refine mz_if_eq X 67 dX11_mayBeParent_45 (by decide) hr (fun hr => ?_) (fun hr => ?_)
  · refine lv_iconst (v := 0) X.1 X.2.1 dX11_mayBeParent_67 (by decide) ?_
    exact mz_zret Y dX11_mayBeParent_68 hH hS hc hs hr
  · refine mz_aload_n X dX11_mayBeParent_48 rfl (mz_at hl 1 rfl) ?_
    refine mz_getI X hH fl_RX11_72 dX11_mayBeParent_49 hr (fun v1 hr => ?_)
    refine mz_if_eq X 63 dX11_mayBeParent_52 (by decide) hr (fun hr => ?_) (fun hr => ?_)
    · exact pf_X11_mayBeParent_b63 r Y h  _ _ hr H locs cells slots ls hH hS (mz_sub hl [] rfl) hc hs
    · refine mz_aload_n X dX11_mayBeParent_55 rfl (mz_at hl 1 rfl) ?_
      refine mz_getI X hH fl_RX11_72 dX11_mayBeParent_56 hr (fun v2 hr => ?_)
      refine lv_iconst (v := 1) X.1 X.2.1 dX11_mayBeParent_59 (by decide) ?_
      refine mz_icmp_ne X 67 dX11_mayBeParent_60 (by decide) hr (fun hr => ?_) (fun hr => ?_)
      · refine lv_iconst (v := 0) X.1 X.2.1 dX11_mayBeParent_67 (by decide) ?_
        exact mz_zret Y dX11_mayBeParent_68 hH hS hc hs hr
      · exact pf_X11_mayBeParent_b63 r Y h  _ _ hr H locs cells slots ls hH hS (mz_sub hl [] rfl) hc hs
def fn_X11_mayBeParent_b38 (h : mz_H) (a1 : (Option Nat)) : mz_Res Int32 :=
  fn_X11_mayBeParent_b43 h a1 1
set_option maxHeartbeats 4000000 in
set_option maxRecDepth 100000 in
theorem pf_X11_mayBeParent_b38 (r : Int32) (Y : mz_Y p g RX11 cX11_mayBeParent 3 (some .boolean) "mayBeParent" (mz_AF h0) s m args meth c) (h : mz_H) (a1 : (Option Nat)) (dc ds : Nat) (hr : fn_X11_mayBeParent_b38 h a1 = some (r, hf, dc, ds)) : mz_Go l g p e s m args below meth c 0 0 DC DS h0 (some (Value.int r)) hf 3 38 [(1, false, va_rf a1)] [] h dc ds := by
  unfold fn_X11_mayBeParent_b38 at hr
  intro H locs cells slots ls hH hS hl hc hs
  have X := Y.1
  refine lv_iconst (v := 1) X.1 X.2.1 dX11_mayBeParent_38 (by decide) ?_
  refine lv_goto (tgt := 43) X.1 X.2.1 dX11_mayBeParent_39 (by decide) ?_
  exact pf_X11_mayBeParent_b43 r Y h a1 1 _ _ hr H locs cells slots ls hH hS (mz_sub hl [0] rfl) hc hs
def fn_X11_mayBeParent (h : mz_H) (x0 : Int32) (a1 : (Option Nat)) : mz_Res Int32 :=
  if x0 = 5 then
    if a1 = none then
      mz_chk ((0 : Int32) &&& 1 == 0) (mz_ret 0 h)
    else
      mz_op (mz_fI h a1 8 0) fun v1 =>
      if v1 = 4 then
        mz_chk ((1 : Int32) &&& 1 == 1) (mz_ret 1 h)
      else
        mz_chk ((0 : Int32) &&& 1 == 0) (mz_ret 0 h)
  else
    if a1 = none then
      mz_chk ((1 : Int32) &&& 1 == 1) (mz_ret 1 h)
    else
      if x0 = 0 then
        fn_X11_mayBeParent_b38 h a1
      else
        if x0 = 1 then
          fn_X11_mayBeParent_b38 h a1
        else
          fn_X11_mayBeParent_b43 h a1 0
set_option maxHeartbeats 4000000 in
set_option maxRecDepth 100000 in
theorem pf_X11_mayBeParent_b0 (r : Int32) (Y : mz_Y p g RX11 cX11_mayBeParent 3 (some .boolean) "mayBeParent" (mz_AF h0) s m args meth c) (h : mz_H) (x0 : Int32) (a1 : (Option Nat)) (dc ds : Nat) (hr : fn_X11_mayBeParent h x0 a1 = some (r, hf, dc, ds)) : mz_Go l g p e s m args below meth c 0 0 DC DS h0 (some (Value.int r)) hf 3 0 [(0, false, .int x0), (1, false, va_rf a1)] [] h dc ds := by
  unfold fn_X11_mayBeParent at hr
  intro H locs cells slots ls hH hS hl hc hs
  have X := Y.1
  refine lv_iload_n X.1 X.2.1 dX11_mayBeParent_0 rfl (mz_at hl 0 rfl) ?_
  refine lv_iconst (v := 5) X.1 X.2.1 dX11_mayBeParent_1 (by decide) ?_
  refine mz_icmp_ne X 23 dX11_mayBeParent_2 (by decide) hr (fun hr => ?_) (fun hr => ?_)
  · refine mz_aload_n X dX11_mayBeParent_23 rfl (mz_at hl 1 rfl) ?_
    refine mz_ifnonnull X 29 dX11_mayBeParent_24 (by decide) hr (fun hr => ?_) (fun hr => ?_)
    · refine lv_iload_n X.1 X.2.1 dX11_mayBeParent_29 rfl (mz_at hl 0 rfl) ?_
      refine mz_if_eq X 38 dX11_mayBeParent_30 (by decide) hr (fun hr => ?_) (fun hr => ?_)
      · exact pf_X11_mayBeParent_b38 r Y h a1 _ _ hr H locs cells slots ls hH hS (mz_sub hl [1] rfl) hc hs
      · refine lv_iload_n X.1 X.2.1 dX11_mayBeParent_33 rfl (mz_at hl 0 rfl) ?_
        refine lv_iconst (v := 1) X.1 X.2.1 dX11_mayBeParent_34 (by decide) ?_
        refine mz_icmp_ne X 42 dX11_mayBeParent_35 (by decide) hr (fun hr => ?_) (fun hr => ?_)
        · refine lv_iconst (v := 0) X.1 X.2.1 dX11_mayBeParent_42 (by decide) ?_
          exact pf_X11_mayBeParent_b43 r Y h a1 0 _ _ hr H locs cells slots ls hH hS (mz_sub hl [1] rfl) hc hs
        · exact pf_X11_mayBeParent_b38 r Y h a1 _ _ hr H locs cells slots ls hH hS (mz_sub hl [1] rfl) hc hs
    · refine lv_iconst (v := 1) X.1 X.2.1 dX11_mayBeParent_27 (by decide) ?_
      exact mz_zret Y dX11_mayBeParent_28 hH hS hc hs hr
  · refine mz_aload_n X dX11_mayBeParent_5 rfl (mz_at hl 1 rfl) ?_
    refine mz_ifnull X 21 dX11_mayBeParent_6 (by decide) hr (fun hr => ?_) (fun hr => ?_)
    · refine lv_iconst (v := 0) X.1 X.2.1 dX11_mayBeParent_21 (by decide) ?_
      exact mz_zret Y dX11_mayBeParent_22 hH hS hc hs hr
    · refine mz_aload_n X dX11_mayBeParent_9 rfl (mz_at hl 1 rfl) ?_
      refine mz_getI X hH fl_RX11_72 dX11_mayBeParent_10 hr (fun v1 hr => ?_)
      refine lv_iconst (v := 4) X.1 X.2.1 dX11_mayBeParent_13 (by decide) ?_
      refine mz_icmp_ne X 21 dX11_mayBeParent_14 (by decide) hr (fun hr => ?_) (fun hr => ?_)
      · refine lv_iconst (v := 0) X.1 X.2.1 dX11_mayBeParent_21 (by decide) ?_
        exact mz_zret Y dX11_mayBeParent_22 hH hS hc hs hr
      · refine lv_iconst (v := 1) X.1 X.2.1 dX11_mayBeParent_17 (by decide) ?_
        refine lv_goto (tgt := 22) X.1 X.2.1 dX11_mayBeParent_18 (by decide) ?_
        exact mz_zret Y dX11_mayBeParent_22 hH hS hc hs hr
set_option maxRecDepth 100000 in
theorem ct_X11_mayBeParent (l : Launch) (g : mz_G) (h : mz_H) (x0 : Int32) (a1 : (Option Nat)) (r : Int32) (hf : mz_H) (k n : Nat) (hr : fn_X11_mayBeParent h x0 a1 = some (r, hf, k, n)) : mz_C l g yX11_mayBeParent cX11_mayBeParent 3 (some .boolean) 0 0 [.int x0, va_rf a1] h (some (Value.int r)) hf k n := by
  refine mz_met (as := [(false, .int x0), (false, va_rf a1)]) (plainFor_of_name (by decide)) (mz_c1 rfl (mz_c1 (mz_cat_rf _) mz_c0)) (Nat.le_of_ble_eq_true rfl) ?_
  intro p e s m args below meth c Y
  exact pf_X11_mayBeParent_b0 r Y h x0 a1 _ _ hr
theorem dX11_cls_0 : decode cX11_cls 0 = .ok (.aload_n 0, 1) := by decide +kernel
theorem dX11_cls_1 : decode cX11_cls 1 = .ok (.getfield 10, 3) := by decide +kernel
theorem dX11_cls_4 : decode cX11_cls 4 = .ok (.iload_n 2, 1) := by decide +kernel
theorem dX11_cls_5 : decode cX11_cls 5 = .ok (.invokevirtual 48, 3) := by decide +kernel
theorem dX11_cls_8 : decode cX11_cls 8 = .ok (.astore_n 3, 1) := by decide +kernel
theorem dX11_cls_9 : decode cX11_cls 9 = .ok (.aload_n 3, 1) := by decide +kernel
theorem dX11_cls_10 : decode cX11_cls 10 = .ok (.ifnonnull 11, 3) := by decide +kernel
theorem dX11_cls_13 : decode cX11_cls 13 = .ok (.iload_n 2, 1) := by decide +kernel
theorem dX11_cls_14 : decode cX11_cls 14 = .ok (.bipush (-9), 2) := by decide +kernel
theorem dX11_cls_16 : decode cX11_cls 16 = .ok (.if_icmp .eq 5, 3) := by decide +kernel
theorem dX11_cls_19 : decode cX11_cls 19 = .ok (.iconst (-1), 1) := by decide +kernel
theorem dX11_cls_20 : decode cX11_cls 20 = .ok (.ireturn, 1) := by decide +kernel
theorem dX11_cls_21 : decode cX11_cls 21 = .ok (.iload_n 1, 1) := by decide +kernel
theorem dX11_cls_22 : decode cX11_cls 22 = .ok (.ifCond .lt 8, 3) := by decide +kernel
theorem dX11_cls_25 : decode cX11_cls 25 = .ok (.iload_n 1, 1) := by decide +kernel
theorem dX11_cls_26 : decode cX11_cls 26 = .ok (.iconst 5, 1) := by decide +kernel
theorem dX11_cls_27 : decode cX11_cls 27 = .ok (.if_icmp .le 6, 3) := by decide +kernel
theorem dX11_cls_30 : decode cX11_cls 30 = .ok (.bipush (-2), 2) := by decide +kernel
theorem dX11_cls_32 : decode cX11_cls 32 = .ok (.ireturn, 1) := by decide +kernel
theorem dX11_cls_33 : decode cX11_cls 33 = .ok (.iload_n 1, 1) := by decide +kernel
theorem dX11_cls_34 : decode cX11_cls 34 = .ok (.aload_n 3, 1) := by decide +kernel
theorem dX11_cls_35 : decode cX11_cls 35 = .ok (.invokestatic 52, 3) := by decide +kernel
theorem dX11_cls_38 : decode cX11_cls 38 = .ok (.ifCond .ne 6, 3) := by decide +kernel
theorem dX11_cls_41 : decode cX11_cls 41 = .ok (.bipush (-3), 2) := by decide +kernel
theorem dX11_cls_43 : decode cX11_cls 43 = .ok (.ireturn, 1) := by decide +kernel
theorem dX11_cls_44 : decode cX11_cls 44 = .ok (.aload_n 3, 1) := by decide +kernel
theorem dX11_cls_45 : decode cX11_cls 45 = .ok (.ifnonnull 7, 3) := by decide +kernel
theorem dX11_cls_48 : decode cX11_cls 48 = .ok (.iconst 0, 1) := by decide +kernel
theorem dX11_cls_49 : decode cX11_cls 49 = .ok (.goto 9, 3) := by decide +kernel
theorem dX11_cls_52 : decode cX11_cls 52 = .ok (.aload_n 3, 1) := by decide +kernel
theorem dX11_cls_53 : decode cX11_cls 53 = .ok (.getfield 56, 3) := by decide +kernel
theorem dX11_cls_56 : decode cX11_cls 56 = .ok (.iconst 1, 1) := by decide +kernel
theorem dX11_cls_57 : decode cX11_cls 57 = .ok (.iadd, 1) := by decide +kernel
theorem dX11_cls_58 : decode cX11_cls 58 = .ok (.istore 4, 2) := by decide +kernel
theorem dX11_cls_60 : decode cX11_cls 60 = .ok (.aload_n 0, 1) := by decide +kernel
theorem dX11_cls_61 : decode cX11_cls 61 = .ok (.getfield 10, 3) := by decide +kernel
theorem dX11_cls_64 : decode cX11_cls 64 = .ok (.getfield 62, 3) := by decide +kernel
theorem dX11_cls_67 : decode cX11_cls 67 = .ok (.bipush 40, 2) := by decide +kernel
theorem dX11_cls_69 : decode cX11_cls 69 = .ok (.if_icmp .ge 10, 3) := by decide +kernel
theorem dX11_cls_72 : decode cX11_cls 72 = .ok (.iload 4, 2) := by decide +kernel
theorem dX11_cls_74 : decode cX11_cls 74 = .ok (.bipush 7, 2) := by decide +kernel
theorem dX11_cls_76 : decode cX11_cls 76 = .ok (.if_icmp .le 6, 3) := by decide +kernel
theorem dX11_cls_79 : decode cX11_cls 79 = .ok (.bipush (-4), 2) := by decide +kernel
theorem dX11_cls_81 : decode cX11_cls 81 = .ok (.ireturn, 1) := by decide +kernel
theorem dX11_cls_82 : decode cX11_cls 82 = .ok (.aload_n 0, 1) := by decide +kernel
theorem dX11_cls_83 : decode cX11_cls 83 = .ok (.getfield 10, 3) := by decide +kernel
theorem dX11_cls_86 : decode cX11_cls 86 = .ok (.new 57, 3) := by decide +kernel
theorem dX11_cls_89 : decode cX11_cls 89 = .ok (.dup, 1) := by decide +kernel
theorem dX11_cls_90 : decode cX11_cls 90 = .ok (.iload_n 1, 1) := by decide +kernel
theorem dX11_cls_91 : decode cX11_cls 91 = .ok (.iload_n 2, 1) := by decide +kernel
theorem dX11_cls_92 : decode cX11_cls 92 = .ok (.iload 4, 2) := by decide +kernel
theorem dX11_cls_94 : decode cX11_cls 94 = .ok (.invokespecial 65, 3) := by decide +kernel
theorem dX11_cls_97 : decode cX11_cls 97 = .ok (.invokevirtual 68, 3) := by decide +kernel
theorem dX11_cls_100 : decode cX11_cls 100 = .ok (.ireturn, 1) := by decide +kernel
def fn_X11_cls_b58 (h : mz_H) (a0 : (Option Nat)) (x1 : Int32) (x2 : Int32) (s0 : Int32) : mz_Res Int32 :=
  mz_op (mz_fR h a0 10 0) fun v1 =>
  mz_op (mz_fI h v1 9 1) fun v2 =>
  if 40 ≤ v2 then
    mz_ret (-4) h
  else
    if s0 ≤ 7 then
      mz_op (mz_fR h a0 10 0) fun v3 =>
      mz_oN h 8 11 [.int 0, .int 0, .int 0, .null, .int 0, .null, .int 0, .null, .int 0, .null, .int 0] fun v4 h =>
      mz_chk (mz_is h v4 8) <| mz_call (fn_X9_init h v4 x1 x2 s0) fun _ h =>
      mz_chk (mz_is h v3 9) <| mz_call (fn_X10_add h v3 v4) fun v5 h =>
      mz_ret v5 h
    else
      mz_ret (-4) h
set_option maxHeartbeats 4000000 in
set_option maxRecDepth 100000 in
theorem pf_X11_cls_b58 (r : Int32) (Y : mz_Y p g RX11 cX11_cls 5 (some .int) "cls" (mz_AF h0) s m args meth c) (h : mz_H) (a0 : (Option Nat)) (x1 : Int32) (x2 : Int32) (s0 : Int32) (dc ds : Nat) (hr : fn_X11_cls_b58 h a0 x1 x2 s0 = some (r, hf, dc, ds)) : mz_Go l g p e s m args below meth c 2 43 DC DS h0 (some (Value.int r)) hf 5 58 [(0, false, va_rf a0), (1, false, .int x1), (2, false, .int x2)] [.int s0] h dc ds := by
  unfold fn_X11_cls_b58 at hr
  intro H locs cells slots ls hH hS hl hc hs
  have X := Y.1
  refine mz_istore X [(4, false, .int s0), (0, false, va_rf a0), (1, false, .int x1), (2, false, .int x2)] dX11_cls_58 hl (by decide) rfl (fun ls hl => ?_)
  refine mz_aload_n X dX11_cls_60 rfl (mz_at hl 1 rfl) ?_
  refine mz_getR X hH fl_RX11_10 dX11_cls_61 hr (fun v1 hr => ?_)
  refine mz_getI X hH fl_RX11_62 dX11_cls_64 hr (fun v2 hr => ?_)
  refine lv_bipush (v := 40) X.1 X.2.1 dX11_cls_67 (by decide) ?_
  refine mz_icmp_ge X 79 dX11_cls_69 (by decide) hr (fun hr => ?_) (fun hr => ?_)
  · refine lv_bipush (v := (-4)) X.1 X.2.1 dX11_cls_79 (by decide) ?_
    exact mz_iret Y dX11_cls_81 hH hS hc hs hr
  · refine lv_iload X.1 X.2.1 dX11_cls_72 (mz_at hl 0 rfl) ?_
    refine lv_bipush (v := 7) X.1 X.2.1 dX11_cls_74 (by decide) ?_
    refine mz_icmp_le X 82 dX11_cls_76 (by decide) hr (fun hr => ?_) (fun hr => ?_)
    · refine mz_aload_n X dX11_cls_82 rfl (mz_at hl 1 rfl) ?_
      refine mz_getR X hH fl_RX11_10 dX11_cls_83 hr (fun v3 hr => ?_)
      refine mz_kN X hH hS tyX9 rfl cl_8 tyX9_ok ⟨mz_tb 246 (by decide +kernel) rfl, mz_tb 247 (by decide +kernel) rfl, mz_tb 46 (by decide +kernel) rfl⟩ nw_8 dX11_cls_86 hr hc hs (fun v4 h H cells slots dc ds hr hH hS hc hs => ?_)
      refine mz_dupR X dX11_cls_89 ?_
      refine lv_iload_n X.1 X.2.1 dX11_cls_90 rfl (mz_at hl 2 rfl) ?_
      refine lv_iload_n X.1 X.2.1 dX11_cls_91 rfl (mz_at hl 3 rfl) ?_
      refine lv_iload X.1 X.2.1 dX11_cls_92 (mz_at hl 0 rfl) ?_
      refine mz_kI X hH hS hl.1.1 [.int x1, .int x2, .int s0] [va_rf v4, va_rf v3] hr (ct_X9_init l g h v4 x1 x2 s0) mb_RX11_65 im_X9_init rfl rfl (Nat.le_of_ble_eq_true rfl) ⟨Nat.le_of_ble_eq_true rfl, Nat.le_of_ble_eq_true rfl⟩ hc hs dX11_cls_94 rfl (fun _ h H locs cells slots dc ds hr hH hS hc hs => ?_)
      refine mz_kV Value.int X hH hS hl.1.1 [va_rf v4] [] hr (ct_X10_add l g h v3 v4) mb_RX11_68 rfl im_X10_add rfl (Nat.le_of_ble_eq_true rfl) ⟨Nat.le_of_ble_eq_true rfl, Nat.le_of_ble_eq_true rfl⟩ hc hs dX11_cls_97 rfl (fun v5 h H locs cells slots dc ds hr hH hS hc hs => ?_)
      exact mz_iret Y dX11_cls_100 hH hS hc hs hr
    · refine lv_bipush (v := (-4)) X.1 X.2.1 dX11_cls_79 (by decide) ?_
      exact mz_iret Y dX11_cls_81 hH hS hc hs hr
def fn_X11_cls_b21 (h : mz_H) (a0 : (Option Nat)) (x1 : Int32) (x2 : Int32) (a3 : (Option Nat)) : mz_Res Int32 :=
  if x1 < 0 then
    mz_ret (-2) h
  else
    if x1 ≤ 5 then
      mz_call (fn_X11_mayBeParent h x1 a3) fun v1 h =>
      if v1 = 0 then
        mz_ret (-3) h
      else
        if a3 = none then
          fn_X11_cls_b58 h a0 x1 x2 0
        else
          mz_op (mz_fI h a3 8 2) fun v2 =>
          fn_X11_cls_b58 h a0 x1 x2 (v2 + 1)
    else
      mz_ret (-2) h
set_option maxHeartbeats 4000000 in
set_option maxRecDepth 100000 in
theorem pf_X11_cls_b21 (r : Int32) (Y : mz_Y p g RX11 cX11_cls 5 (some .int) "cls" (mz_AF h0) s m args meth c) (h : mz_H) (a0 : (Option Nat)) (x1 : Int32) (x2 : Int32) (a3 : (Option Nat)) (dc ds : Nat) (hr : fn_X11_cls_b21 h a0 x1 x2 a3 = some (r, hf, dc, ds)) : mz_Go l g p e s m args below meth c 2 43 DC DS h0 (some (Value.int r)) hf 5 21 [(0, false, va_rf a0), (1, false, .int x1), (2, false, .int x2), (3, false, va_rf a3)] [] h dc ds := by
  unfold fn_X11_cls_b21 at hr
  intro H locs cells slots ls hH hS hl hc hs
  have X := Y.1
  refine lv_iload_n X.1 X.2.1 dX11_cls_21 rfl (mz_at hl 1 rfl) ?_
  refine mz_if_lt X 30 dX11_cls_22 (by decide) hr (fun hr => ?_) (fun hr => ?_)
  · refine lv_bipush (v := (-2)) X.1 X.2.1 dX11_cls_30 (by decide) ?_
    exact mz_iret Y dX11_cls_32 hH hS hc hs hr
  · refine lv_iload_n X.1 X.2.1 dX11_cls_25 rfl (mz_at hl 1 rfl) ?_
    refine lv_iconst (v := 5) X.1 X.2.1 dX11_cls_26 (by decide) ?_
    refine mz_icmp_le X 33 dX11_cls_27 (by decide) hr (fun hr => ?_) (fun hr => ?_)
    · refine lv_iload_n X.1 X.2.1 dX11_cls_33 rfl (mz_at hl 1 rfl) ?_
      refine mz_aload_n X dX11_cls_34 rfl (mz_at hl 3 rfl) ?_
      refine mz_kS Value.int X hH hS hl.1.1 [.int x1, va_rf a3] [] hr (ct_X11_mayBeParent l g h x1 a3) mb_RX11_52 im_X11_mayBeParent rfl (Nat.le_of_ble_eq_true rfl) ⟨Nat.le_of_ble_eq_true rfl, Nat.le_of_ble_eq_true rfl⟩ hc hs dX11_cls_35 rfl (fun v1 h H locs cells slots dc ds hr hH hS hc hs => ?_)
      refine mz_if_ne X 44 dX11_cls_38 (by decide) hr (fun hr => ?_) (fun hr => ?_)
      · refine mz_aload_n X dX11_cls_44 rfl (mz_at hl 3 rfl) ?_
        refine mz_ifnonnull X 52 dX11_cls_45 (by decide) hr (fun hr => ?_) (fun hr => ?_)
        · refine mz_aload_n X dX11_cls_52 rfl (mz_at hl 3 rfl) ?_
          refine mz_getI X hH fl_RX11_56 dX11_cls_53 hr (fun v2 hr => ?_)
          refine lv_iconst (v := 1) X.1 X.2.1 dX11_cls_56 (by decide) ?_
          refine lv_iadd X.1 X.2.1 dX11_cls_57 ?_
          exact pf_X11_cls_b58 r Y h a0 x1 x2 (v2 + 1) _ _ hr H locs cells slots ls hH hS (mz_sub hl [0, 1, 2] rfl) hc hs
        · refine lv_iconst (v := 0) X.1 X.2.1 dX11_cls_48 (by decide) ?_
          refine lv_goto (tgt := 58) X.1 X.2.1 dX11_cls_49 (by decide) ?_
          exact pf_X11_cls_b58 r Y h a0 x1 x2 0 _ _ hr H locs cells slots ls hH hS (mz_sub hl [0, 1, 2] rfl) hc hs
      · refine lv_bipush (v := (-3)) X.1 X.2.1 dX11_cls_41 (by decide) ?_
        exact mz_iret Y dX11_cls_43 hH hS hc hs hr
    · refine lv_bipush (v := (-2)) X.1 X.2.1 dX11_cls_30 (by decide) ?_
      exact mz_iret Y dX11_cls_32 hH hS hc hs hr
def fn_X11_cls (h : mz_H) (a0 : (Option Nat)) (x1 : Int32) (x2 : Int32) : mz_Res Int32 :=
  mz_op (mz_fR h a0 10 0) fun v1 =>
  mz_chk (mz_is h v1 9) <| mz_call (fn_X10_typeOf h v1 x2) fun v2 h =>
  if v2 = none then
    if x2 = (-9) then
      fn_X11_cls_b21 h a0 x1 x2 v2
    else
      mz_ret (-1) h
  else
    fn_X11_cls_b21 h a0 x1 x2 v2
set_option maxHeartbeats 4000000 in
set_option maxRecDepth 100000 in
theorem pf_X11_cls_b0 (r : Int32) (Y : mz_Y p g RX11 cX11_cls 5 (some .int) "cls" (mz_AF h0) s m args meth c) (h : mz_H) (a0 : (Option Nat)) (x1 : Int32) (x2 : Int32) (dc ds : Nat) (hr : fn_X11_cls h a0 x1 x2 = some (r, hf, dc, ds)) : mz_Go l g p e s m args below meth c 2 43 DC DS h0 (some (Value.int r)) hf 5 0 [(0, false, va_rf a0), (1, false, .int x1), (2, false, .int x2)] [] h dc ds := by
  unfold fn_X11_cls at hr
  intro H locs cells slots ls hH hS hl hc hs
  have X := Y.1
  refine mz_aload_n X dX11_cls_0 rfl (mz_at hl 0 rfl) ?_
  refine mz_getR X hH fl_RX11_10 dX11_cls_1 hr (fun v1 hr => ?_)
  refine lv_iload_n X.1 X.2.1 dX11_cls_4 rfl (mz_at hl 2 rfl) ?_
  refine mz_kV va_rf X hH hS hl.1.1 [.int x2] [] hr (ct_X10_typeOf l g h v1 x2) mb_RX11_48 rfl im_X10_typeOf rfl (Nat.le_of_ble_eq_true rfl) ⟨Nat.le_of_ble_eq_true rfl, Nat.le_of_ble_eq_true rfl⟩ hc hs dX11_cls_5 rfl (fun v2 h H locs cells slots dc ds hr hH hS hc hs => ?_)
  refine mz_astore_n X [(3, false, va_rf v2), (0, false, va_rf a0), (1, false, .int x1), (2, false, .int x2)] dX11_cls_8 rfl hl (by decide) rfl (fun ls hl => ?_)
  refine mz_aload_n X dX11_cls_9 rfl (mz_at hl 0 rfl) ?_
  refine mz_ifnonnull X 21 dX11_cls_10 (by decide) hr (fun hr => ?_) (fun hr => ?_)
  · exact pf_X11_cls_b21 r Y h a0 x1 x2 v2 _ _ hr H locs cells slots ls hH hS (mz_sub hl [1, 2, 3, 0] rfl) hc hs
  · refine lv_iload_n X.1 X.2.1 dX11_cls_13 rfl (mz_at hl 3 rfl) ?_
    refine lv_bipush (v := (-9)) X.1 X.2.1 dX11_cls_14 (by decide) ?_
    refine mz_icmp_eq X 21 dX11_cls_16 (by decide) hr (fun hr => ?_) (fun hr => ?_)
    · exact pf_X11_cls_b21 r Y h a0 x1 x2 v2 _ _ hr H locs cells slots ls hH hS (mz_sub hl [1, 2, 3, 0] rfl) hc hs
    · refine lv_iconst (v := (-1)) X.1 X.2.1 dX11_cls_19 (by decide) ?_
      exact mz_iret Y dX11_cls_20 hH hS hc hs hr
set_option maxRecDepth 100000 in
theorem ct_X11_cls (l : Launch) (g : mz_G) (h : mz_H) (a0 : (Option Nat)) (x1 : Int32) (x2 : Int32) (r : Int32) (hf : mz_H) (k n : Nat) (hr : fn_X11_cls h a0 x1 x2 = some (r, hf, k, n)) : mz_C l g yX11_cls cX11_cls 5 (some .int) 2 43 [va_rf a0, .int x1, .int x2] h (some (Value.int r)) hf k n := by
  refine mz_met (as := [(false, va_rf a0), (false, .int x1), (false, .int x2)]) (plainFor_of_name (by decide)) (mz_c1 (mz_cat_rf _) (mz_c1 rfl (mz_c1 rfl mz_c0))) (Nat.le_of_ble_eq_true rfl) ?_
  intro p e s m args below meth c Y
  exact pf_X11_cls_b0 r Y h a0 x1 x2 _ _ hr
theorem dX11_face_0 : decode cX11_face 0 = .ok (.aload_n 0, 1) := by decide +kernel
theorem dX11_face_1 : decode cX11_face 1 = .ok (.getfield 10, 3) := by decide +kernel
theorem dX11_face_4 : decode cX11_face 4 = .ok (.iload_n 1, 1) := by decide +kernel
theorem dX11_face_5 : decode cX11_face 5 = .ok (.invokevirtual 48, 3) := by decide +kernel
theorem dX11_face_8 : decode cX11_face 8 = .ok (.astore_n 3, 1) := by decide +kernel
theorem dX11_face_9 : decode cX11_face 9 = .ok (.aload_n 0, 1) := by decide +kernel
theorem dX11_face_10 : decode cX11_face 10 = .ok (.getfield 10, 3) := by decide +kernel
theorem dX11_face_13 : decode cX11_face 13 = .ok (.iload_n 2, 1) := by decide +kernel
theorem dX11_face_14 : decode cX11_face 14 = .ok (.invokevirtual 48, 3) := by decide +kernel
theorem dX11_face_17 : decode cX11_face 17 = .ok (.astore 4, 2) := by decide +kernel
theorem dX11_face_19 : decode cX11_face 19 = .ok (.aload_n 3, 1) := by decide +kernel
theorem dX11_face_20 : decode cX11_face 20 = .ok (.ifnull 8, 3) := by decide +kernel
theorem dX11_face_23 : decode cX11_face 23 = .ok (.aload 4, 2) := by decide +kernel
theorem dX11_face_25 : decode cX11_face 25 = .ok (.ifnonnull 5, 3) := by decide +kernel
theorem dX11_face_28 : decode cX11_face 28 = .ok (.iconst (-1), 1) := by decide +kernel
theorem dX11_face_29 : decode cX11_face 29 = .ok (.ireturn, 1) := by decide +kernel
theorem dX11_face_30 : decode cX11_face 30 = .ok (.aload 4, 2) := by decide +kernel
theorem dX11_face_32 : decode cX11_face 32 = .ok (.getfield 72, 3) := by decide +kernel
theorem dX11_face_35 : decode cX11_face 35 = .ok (.iconst 2, 1) := by decide +kernel
theorem dX11_face_36 : decode cX11_face 36 = .ok (.if_icmp .ne 23, 3) := by decide +kernel
theorem dX11_face_39 : decode cX11_face 39 = .ok (.aload_n 0, 1) := by decide +kernel
theorem dX11_face_40 : decode cX11_face 40 = .ok (.getfield 10, 3) := by decide +kernel
theorem dX11_face_43 : decode cX11_face 43 = .ok (.iload_n 2, 1) := by decide +kernel
theorem dX11_face_44 : decode cX11_face 44 = .ok (.iload_n 1, 1) := by decide +kernel
theorem dX11_face_45 : decode cX11_face 45 = .ok (.invokevirtual 75, 3) := by decide +kernel
theorem dX11_face_48 : decode cX11_face 48 = .ok (.ifCond .ne 11, 3) := by decide +kernel
theorem dX11_face_51 : decode cX11_face 51 = .ok (.aload_n 3, 1) := by decide +kernel
theorem dX11_face_52 : decode cX11_face 52 = .ok (.iload_n 2, 1) := by decide +kernel
theorem dX11_face_53 : decode cX11_face 53 = .ok (.invokevirtual 79, 3) := by decide +kernel
theorem dX11_face_56 : decode cX11_face 56 = .ok (.ifCond .eq 6, 3) := by decide +kernel
theorem dX11_face_59 : decode cX11_face 59 = .ok (.bipush (-3), 2) := by decide +kernel
theorem dX11_face_61 : decode cX11_face 61 = .ok (.ireturn, 1) := by decide +kernel
theorem dX11_face_62 : decode cX11_face 62 = .ok (.aload_n 3, 1) := by decide +kernel
theorem dX11_face_63 : decode cX11_face 63 = .ok (.getfield 83, 3) := by decide +kernel
theorem dX11_face_66 : decode cX11_face 66 = .ok (.iconst 3, 1) := by decide +kernel
theorem dX11_face_67 : decode cX11_face 67 = .ok (.if_icmp .lt 6, 3) := by decide +kernel
theorem dX11_face_70 : decode cX11_face 70 = .ok (.bipush (-4), 2) := by decide +kernel
theorem dX11_face_72 : decode cX11_face 72 = .ok (.ireturn, 1) := by decide +kernel
theorem dX11_face_73 : decode cX11_face 73 = .ok (.aload_n 3, 1) := by decide +kernel
theorem dX11_face_74 : decode cX11_face 74 = .ok (.getfield 86, 3) := by decide +kernel
theorem dX11_face_77 : decode cX11_face 77 = .ok (.aload_n 3, 1) := by decide +kernel
theorem dX11_face_78 : decode cX11_face 78 = .ok (.getfield 83, 3) := by decide +kernel
theorem dX11_face_81 : decode cX11_face 81 = .ok (.iload_n 2, 1) := by decide +kernel
theorem dX11_face_82 : decode cX11_face 82 = .ok (.iastore, 1) := by decide +kernel
theorem dX11_face_83 : decode cX11_face 83 = .ok (.aload_n 3, 1) := by decide +kernel
theorem dX11_face_84 : decode cX11_face 84 = .ok (.dup, 1) := by decide +kernel
theorem dX11_face_85 : decode cX11_face 85 = .ok (.getfield 83, 3) := by decide +kernel
theorem dX11_face_88 : decode cX11_face 88 = .ok (.iconst 1, 1) := by decide +kernel
theorem dX11_face_89 : decode cX11_face 89 = .ok (.iadd, 1) := by decide +kernel
theorem dX11_face_90 : decode cX11_face 90 = .ok (.putfield 83, 3) := by decide +kernel
theorem dX11_face_93 : decode cX11_face 93 = .ok (.aload_n 3, 1) := by decide +kernel
theorem dX11_face_94 : decode cX11_face 94 = .ok (.getfield 83, 3) := by decide +kernel
theorem dX11_face_97 : decode cX11_face 97 = .ok (.ireturn, 1) := by decide +kernel
def fn_X11_face (h : mz_H) (a0 : (Option Nat)) (x1 : Int32) (x2 : Int32) : mz_Res Int32 :=
  mz_op (mz_fR h a0 10 0) fun v1 =>
  mz_chk (mz_is h v1 9) <| mz_call (fn_X10_typeOf h v1 x1) fun v2 h =>
  mz_op (mz_fR h a0 10 0) fun v3 =>
  mz_chk (mz_is h v3 9) <| mz_call (fn_X10_typeOf h v3 x2) fun v4 h =>
  if v2 = none then
    mz_ret (-1) h
  else
    if v4 = none then
      mz_ret (-1) h
    else
      mz_op (mz_fI h v4 8 0) fun v5 =>
      if v5 = 2 then
        mz_op (mz_fR h a0 10 0) fun v6 =>
        mz_chk (mz_is h v6 9) <| mz_call (fn_X10_isBelow h v6 x2 x1) fun v7 h =>
        if v7 = 0 then
          mz_chk (mz_is h v2 8) <| mz_call (fn_X9_hasGuise h v2 x2) fun v8 h =>
          if v8 = 0 then
            mz_op (mz_fI h v2 8 4) fun v9 =>
            if v9 < 3 then
              mz_op (mz_fR h v2 8 3) fun v10 =>
              mz_op (mz_fI h v2 8 4) fun v11 =>
              mz_op (mz_sI h v10 0 v11 x2) fun h =>
              mz_op (mz_fI h v2 8 4) fun v12 =>
              mz_op (mz_pF h v2 8 4 (Value.int (v12 + 1))) fun h =>
              mz_op (mz_fI h v2 8 4) fun v13 =>
              mz_ret v13 h
            else
              mz_ret (-4) h
          else
            mz_ret (-3) h
        else
          mz_ret (-3) h
      else
        mz_ret (-3) h
set_option maxHeartbeats 4000000 in
set_option maxRecDepth 100000 in
theorem pf_X11_face_b0 (r : Int32) (Y : mz_Y p g RX11 cX11_face 5 (some .int) "face" (mz_AF h0) s m args meth c) (h : mz_H) (a0 : (Option Nat)) (x1 : Int32) (x2 : Int32) (dc ds : Nat) (hr : fn_X11_face h a0 x1 x2 = some (r, hf, dc, ds)) : mz_Go l g p e s m args below meth c 67 2590 DC DS h0 (some (Value.int r)) hf 5 0 [(0, false, va_rf a0), (1, false, .int x1), (2, false, .int x2)] [] h dc ds := by
  unfold fn_X11_face at hr
  intro H locs cells slots ls hH hS hl hc hs
  have X := Y.1
  refine mz_aload_n X dX11_face_0 rfl (mz_at hl 0 rfl) ?_
  refine mz_getR X hH fl_RX11_10 dX11_face_1 hr (fun v1 hr => ?_)
  refine lv_iload_n X.1 X.2.1 dX11_face_4 rfl (mz_at hl 1 rfl) ?_
  refine mz_kV va_rf X hH hS hl.1.1 [.int x1] [] hr (ct_X10_typeOf l g h v1 x1) mb_RX11_48 rfl im_X10_typeOf rfl (Nat.le_of_ble_eq_true rfl) ⟨Nat.le_of_ble_eq_true rfl, Nat.le_of_ble_eq_true rfl⟩ hc hs dX11_face_5 rfl (fun v2 h H locs cells slots dc ds hr hH hS hc hs => ?_)
  refine mz_astore_n X [(3, false, va_rf v2), (0, false, va_rf a0), (1, false, .int x1), (2, false, .int x2)] dX11_face_8 rfl hl (by decide) rfl (fun ls hl => ?_)
  refine mz_aload_n X dX11_face_9 rfl (mz_at hl 1 rfl) ?_
  refine mz_getR X hH fl_RX11_10 dX11_face_10 hr (fun v3 hr => ?_)
  refine lv_iload_n X.1 X.2.1 dX11_face_13 rfl (mz_at hl 3 rfl) ?_
  refine mz_kV va_rf X hH hS hl.1.1 [.int x2] [] hr (ct_X10_typeOf l g h v3 x2) mb_RX11_48 rfl im_X10_typeOf rfl (Nat.le_of_ble_eq_true rfl) ⟨Nat.le_of_ble_eq_true rfl, Nat.le_of_ble_eq_true rfl⟩ hc hs dX11_face_14 rfl (fun v4 h H locs cells slots dc ds hr hH hS hc hs => ?_)
  refine mz_astore X [(4, false, va_rf v4), (3, false, va_rf v2), (0, false, va_rf a0), (1, false, .int x1), (2, false, .int x2)] dX11_face_17 hl (by decide) rfl (fun ls hl => ?_)
  refine mz_aload_n X dX11_face_19 rfl (mz_at hl 1 rfl) ?_
  refine mz_ifnull X 28 dX11_face_20 (by decide) hr (fun hr => ?_) (fun hr => ?_)
  · refine lv_iconst (v := (-1)) X.1 X.2.1 dX11_face_28 (by decide) ?_
    exact mz_iret Y dX11_face_29 hH hS hc hs hr
  · refine mz_aload X dX11_face_23 (mz_at hl 0 rfl) ?_
    refine mz_ifnonnull X 30 dX11_face_25 (by decide) hr (fun hr => ?_) (fun hr => ?_)
    · refine mz_aload X dX11_face_30 (mz_at hl 0 rfl) ?_
      refine mz_getI X hH fl_RX11_72 dX11_face_32 hr (fun v5 hr => ?_)
      refine lv_iconst (v := 2) X.1 X.2.1 dX11_face_35 (by decide) ?_
      refine mz_icmp_ne X 59 dX11_face_36 (by decide) hr (fun hr => ?_) (fun hr => ?_)
      · refine lv_bipush (v := (-3)) X.1 X.2.1 dX11_face_59 (by decide) ?_
        exact mz_iret Y dX11_face_61 hH hS hc hs hr
      · refine mz_aload_n X dX11_face_39 rfl (mz_at hl 2 rfl) ?_
        refine mz_getR X hH fl_RX11_10 dX11_face_40 hr (fun v6 hr => ?_)
        refine lv_iload_n X.1 X.2.1 dX11_face_43 rfl (mz_at hl 4 rfl) ?_
        refine lv_iload_n X.1 X.2.1 dX11_face_44 rfl (mz_at hl 3 rfl) ?_
        refine mz_kV Value.int X hH hS hl.1.1 [.int x2, .int x1] [] hr (ct_X10_isBelow l g h v6 x2 x1) mb_RX11_75 rfl im_X10_isBelow rfl (Nat.le_of_ble_eq_true rfl) ⟨Nat.le_of_ble_eq_true rfl, Nat.le_of_ble_eq_true rfl⟩ hc hs dX11_face_45 rfl (fun v7 h H locs cells slots dc ds hr hH hS hc hs => ?_)
        refine mz_if_ne X 59 dX11_face_48 (by decide) hr (fun hr => ?_) (fun hr => ?_)
        · refine lv_bipush (v := (-3)) X.1 X.2.1 dX11_face_59 (by decide) ?_
          exact mz_iret Y dX11_face_61 hH hS hc hs hr
        · refine mz_aload_n X dX11_face_51 rfl (mz_at hl 1 rfl) ?_
          refine lv_iload_n X.1 X.2.1 dX11_face_52 rfl (mz_at hl 4 rfl) ?_
          refine mz_kV Value.int X hH hS hl.1.1 [.int x2] [] hr (ct_X9_hasGuise l g h v2 x2) mb_RX11_79 rfl im_X9_hasGuise rfl (Nat.le_of_ble_eq_true rfl) ⟨Nat.le_of_ble_eq_true rfl, Nat.le_of_ble_eq_true rfl⟩ hc hs dX11_face_53 rfl (fun v8 h H locs cells slots dc ds hr hH hS hc hs => ?_)
          refine mz_if_eq X 62 dX11_face_56 (by decide) hr (fun hr => ?_) (fun hr => ?_)
          · refine mz_aload_n X dX11_face_62 rfl (mz_at hl 1 rfl) ?_
            refine mz_getI X hH fl_RX11_83 dX11_face_63 hr (fun v9 hr => ?_)
            refine lv_iconst (v := 3) X.1 X.2.1 dX11_face_66 (by decide) ?_
            refine mz_icmp_lt X 73 dX11_face_67 (by decide) hr (fun hr => ?_) (fun hr => ?_)
            · refine mz_aload_n X dX11_face_73 rfl (mz_at hl 1 rfl) ?_
              refine mz_getR X hH fl_RX11_86 dX11_face_74 hr (fun v10 hr => ?_)
              refine mz_aload_n X dX11_face_77 rfl (mz_at hl 1 rfl) ?_
              refine mz_getI X hH fl_RX11_83 dX11_face_78 hr (fun v11 hr => ?_)
              refine lv_iload_n X.1 X.2.1 dX11_face_81 rfl (mz_at hl 4 rfl) ?_
              refine mz_iast X hH hS dX11_face_82 hr (fun h H locs hr hH hS => ?_)
              refine mz_aload_n X dX11_face_83 rfl (mz_at hl 1 rfl) ?_
              refine mz_dupR X dX11_face_84 ?_
              refine mz_getI X hH fl_RX11_83 dX11_face_85 hr (fun v12 hr => ?_)
              refine lv_iconst (v := 1) X.1 X.2.1 dX11_face_88 (by decide) ?_
              refine lv_iadd X.1 X.2.1 dX11_face_89 ?_
              refine mz_put X hH hS fp_RX11_83 dX11_face_90 rfl rfl hr (fun h H locs hr hH hS => ?_)
              refine mz_aload_n X dX11_face_93 rfl (mz_at hl 1 rfl) ?_
              refine mz_getI X hH fl_RX11_83 dX11_face_94 hr (fun v13 hr => ?_)
              exact mz_iret Y dX11_face_97 hH hS hc hs hr
            · refine lv_bipush (v := (-4)) X.1 X.2.1 dX11_face_70 (by decide) ?_
              exact mz_iret Y dX11_face_72 hH hS hc hs hr
          · refine lv_bipush (v := (-3)) X.1 X.2.1 dX11_face_59 (by decide) ?_
            exact mz_iret Y dX11_face_61 hH hS hc hs hr
    · refine lv_iconst (v := (-1)) X.1 X.2.1 dX11_face_28 (by decide) ?_
      exact mz_iret Y dX11_face_29 hH hS hc hs hr
set_option maxRecDepth 100000 in
theorem ct_X11_face (l : Launch) (g : mz_G) (h : mz_H) (a0 : (Option Nat)) (x1 : Int32) (x2 : Int32) (r : Int32) (hf : mz_H) (k n : Nat) (hr : fn_X11_face h a0 x1 x2 = some (r, hf, k, n)) : mz_C l g yX11_face cX11_face 5 (some .int) 67 2590 [va_rf a0, .int x1, .int x2] h (some (Value.int r)) hf k n := by
  refine mz_met (as := [(false, va_rf a0), (false, .int x1), (false, .int x2)]) (plainFor_of_name (by decide)) (mz_c1 (mz_cat_rf _) (mz_c1 rfl (mz_c1 rfl mz_c0))) (Nat.le_of_ble_eq_true rfl) ?_
  intro p e s m args below meth c Y
  exact pf_X11_face_b0 r Y h a0 x1 x2 _ _ hr
theorem dX11_isNumberLane_0 : decode cX11_isNumberLane 0 = .ok (.iload_n 0, 1) := by decide +kernel
theorem dX11_isNumberLane_1 : decode cX11_isNumberLane 1 = .ok (.ifCond .lt 13, 3) := by decide +kernel
theorem dX11_isNumberLane_4 : decode cX11_isNumberLane 4 = .ok (.iload_n 0, 1) := by decide +kernel
theorem dX11_isNumberLane_5 : decode cX11_isNumberLane 5 = .ok (.bipush 7, 2) := by decide +kernel
theorem dX11_isNumberLane_7 : decode cX11_isNumberLane 7 = .ok (.if_icmp .gt 7, 3) := by decide +kernel
theorem dX11_isNumberLane_10 : decode cX11_isNumberLane 10 = .ok (.iconst 1, 1) := by decide +kernel
theorem dX11_isNumberLane_11 : decode cX11_isNumberLane 11 = .ok (.goto 4, 3) := by decide +kernel
theorem dX11_isNumberLane_14 : decode cX11_isNumberLane 14 = .ok (.iconst 0, 1) := by decide +kernel
theorem dX11_isNumberLane_15 : decode cX11_isNumberLane 15 = .ok (.ireturn, 1) := by decide +kernel
def fn_X11_isNumberLane (h : mz_H) (x0 : Int32) : mz_Res Int32 :=
  if x0 < 0 then
    mz_chk ((0 : Int32) &&& 1 == 0) (mz_ret 0 h)
  else
    if 7 < x0 then
      mz_chk ((0 : Int32) &&& 1 == 0) (mz_ret 0 h)
    else
      mz_chk ((1 : Int32) &&& 1 == 1) (mz_ret 1 h)
set_option maxHeartbeats 4000000 in
set_option maxRecDepth 100000 in
theorem pf_X11_isNumberLane_b0 (r : Int32) (Y : mz_Y p g RX11 cX11_isNumberLane 1 (some .boolean) "isNumberLane" (mz_AF h0) s m args meth c) (h : mz_H) (x0 : Int32) (dc ds : Nat) (hr : fn_X11_isNumberLane h x0 = some (r, hf, dc, ds)) : mz_Go l g p e s m args below meth c 0 0 DC DS h0 (some (Value.int r)) hf 1 0 [(0, false, .int x0)] [] h dc ds := by
  unfold fn_X11_isNumberLane at hr
  intro H locs cells slots ls hH hS hl hc hs
  have X := Y.1
  refine lv_iload_n X.1 X.2.1 dX11_isNumberLane_0 rfl (mz_at hl 0 rfl) ?_
  refine mz_if_lt X 14 dX11_isNumberLane_1 (by decide) hr (fun hr => ?_) (fun hr => ?_)
  · refine lv_iconst (v := 0) X.1 X.2.1 dX11_isNumberLane_14 (by decide) ?_
    exact mz_zret Y dX11_isNumberLane_15 hH hS hc hs hr
  · refine lv_iload_n X.1 X.2.1 dX11_isNumberLane_4 rfl (mz_at hl 0 rfl) ?_
    refine lv_bipush (v := 7) X.1 X.2.1 dX11_isNumberLane_5 (by decide) ?_
    refine mz_icmp_gt X 14 dX11_isNumberLane_7 (by decide) hr (fun hr => ?_) (fun hr => ?_)
    · refine lv_iconst (v := 0) X.1 X.2.1 dX11_isNumberLane_14 (by decide) ?_
      exact mz_zret Y dX11_isNumberLane_15 hH hS hc hs hr
    · refine lv_iconst (v := 1) X.1 X.2.1 dX11_isNumberLane_10 (by decide) ?_
      refine lv_goto (tgt := 15) X.1 X.2.1 dX11_isNumberLane_11 (by decide) ?_
      exact mz_zret Y dX11_isNumberLane_15 hH hS hc hs hr
set_option maxRecDepth 100000 in
theorem ct_X11_isNumberLane (l : Launch) (g : mz_G) (h : mz_H) (x0 : Int32) (r : Int32) (hf : mz_H) (k n : Nat) (hr : fn_X11_isNumberLane h x0 = some (r, hf, k, n)) : mz_C l g yX11_isNumberLane cX11_isNumberLane 1 (some .boolean) 0 0 [.int x0] h (some (Value.int r)) hf k n := by
  refine mz_met (as := [(false, .int x0)]) (plainFor_of_name (by decide)) (mz_c1 rfl mz_c0) (Nat.le_of_ble_eq_true rfl) ?_
  intro p e s m args below meth c Y
  exact pf_X11_isNumberLane_b0 r Y h x0 _ _ hr
theorem dX11_variable_0 : decode cX11_variable 0 = .ok (.aload_n 0, 1) := by decide +kernel
theorem dX11_variable_1 : decode cX11_variable 1 = .ok (.getfield 10, 3) := by decide +kernel
theorem dX11_variable_4 : decode cX11_variable 4 = .ok (.iload_n 1, 1) := by decide +kernel
theorem dX11_variable_5 : decode cX11_variable 5 = .ok (.invokevirtual 48, 3) := by decide +kernel
theorem dX11_variable_8 : decode cX11_variable 8 = .ok (.astore_n 3, 1) := by decide +kernel
theorem dX11_variable_9 : decode cX11_variable 9 = .ok (.aload_n 3, 1) := by decide +kernel
theorem dX11_variable_10 : decode cX11_variable 10 = .ok (.ifnonnull 5, 3) := by decide +kernel
theorem dX11_variable_13 : decode cX11_variable 13 = .ok (.iconst (-1), 1) := by decide +kernel
theorem dX11_variable_14 : decode cX11_variable 14 = .ok (.ireturn, 1) := by decide +kernel
theorem dX11_variable_15 : decode cX11_variable 15 = .ok (.iload_n 2, 1) := by decide +kernel
theorem dX11_variable_16 : decode cX11_variable 16 = .ok (.invokestatic 90, 3) := by decide +kernel
theorem dX11_variable_19 : decode cX11_variable 19 = .ok (.ifCond .ne 6, 3) := by decide +kernel
theorem dX11_variable_22 : decode cX11_variable 22 = .ok (.bipush (-2), 2) := by decide +kernel
theorem dX11_variable_24 : decode cX11_variable 24 = .ok (.ireturn, 1) := by decide +kernel
theorem dX11_variable_25 : decode cX11_variable 25 = .ok (.aload_n 3, 1) := by decide +kernel
theorem dX11_variable_26 : decode cX11_variable 26 = .ok (.getfield 93, 3) := by decide +kernel
theorem dX11_variable_29 : decode cX11_variable 29 = .ok (.iconst 2, 1) := by decide +kernel
theorem dX11_variable_30 : decode cX11_variable 30 = .ok (.if_icmp .lt 6, 3) := by decide +kernel
theorem dX11_variable_33 : decode cX11_variable 33 = .ok (.bipush (-4), 2) := by decide +kernel
theorem dX11_variable_35 : decode cX11_variable 35 = .ok (.ireturn, 1) := by decide +kernel
theorem dX11_variable_36 : decode cX11_variable 36 = .ok (.aload_n 3, 1) := by decide +kernel
theorem dX11_variable_37 : decode cX11_variable 37 = .ok (.getfield 96, 3) := by decide +kernel
theorem dX11_variable_40 : decode cX11_variable 40 = .ok (.aload_n 3, 1) := by decide +kernel
theorem dX11_variable_41 : decode cX11_variable 41 = .ok (.getfield 93, 3) := by decide +kernel
theorem dX11_variable_44 : decode cX11_variable 44 = .ok (.iload_n 2, 1) := by decide +kernel
theorem dX11_variable_45 : decode cX11_variable 45 = .ok (.iastore, 1) := by decide +kernel
theorem dX11_variable_46 : decode cX11_variable 46 = .ok (.aload_n 3, 1) := by decide +kernel
theorem dX11_variable_47 : decode cX11_variable 47 = .ok (.dup, 1) := by decide +kernel
theorem dX11_variable_48 : decode cX11_variable 48 = .ok (.getfield 93, 3) := by decide +kernel
theorem dX11_variable_51 : decode cX11_variable 51 = .ok (.iconst 1, 1) := by decide +kernel
theorem dX11_variable_52 : decode cX11_variable 52 = .ok (.iadd, 1) := by decide +kernel
theorem dX11_variable_53 : decode cX11_variable 53 = .ok (.putfield 93, 3) := by decide +kernel
theorem dX11_variable_56 : decode cX11_variable 56 = .ok (.aload_n 3, 1) := by decide +kernel
theorem dX11_variable_57 : decode cX11_variable 57 = .ok (.getfield 93, 3) := by decide +kernel
theorem dX11_variable_60 : decode cX11_variable 60 = .ok (.iconst 1, 1) := by decide +kernel
theorem dX11_variable_61 : decode cX11_variable 61 = .ok (.isub, 1) := by decide +kernel
theorem dX11_variable_62 : decode cX11_variable 62 = .ok (.ireturn, 1) := by decide +kernel
def fn_X11_variable (h : mz_H) (a0 : (Option Nat)) (x1 : Int32) (x2 : Int32) : mz_Res Int32 :=
  mz_op (mz_fR h a0 10 0) fun v1 =>
  mz_chk (mz_is h v1 9) <| mz_call (fn_X10_typeOf h v1 x1) fun v2 h =>
  if v2 = none then
    mz_ret (-1) h
  else
    mz_call (fn_X11_isNumberLane h x2) fun v3 h =>
    if v3 = 0 then
      mz_ret (-2) h
    else
      mz_op (mz_fI h v2 8 6) fun v4 =>
      if v4 < 2 then
        mz_op (mz_fR h v2 8 5) fun v5 =>
        mz_op (mz_fI h v2 8 6) fun v6 =>
        mz_op (mz_sI h v5 0 v6 x2) fun h =>
        mz_op (mz_fI h v2 8 6) fun v7 =>
        mz_op (mz_pF h v2 8 6 (Value.int (v7 + 1))) fun h =>
        mz_op (mz_fI h v2 8 6) fun v8 =>
        mz_ret (v8 - 1) h
      else
        mz_ret (-4) h
set_option maxHeartbeats 4000000 in
set_option maxRecDepth 100000 in
theorem pf_X11_variable_b0 (r : Int32) (Y : mz_Y p g RX11 cX11_variable 4 (some .int) "variable" (mz_AF h0) s m args meth c) (h : mz_H) (a0 : (Option Nat)) (x1 : Int32) (x2 : Int32) (dc ds : Nat) (hr : fn_X11_variable h a0 x1 x2 = some (r, hf, dc, ds)) : mz_Go l g p e s m args below meth c 1 21 DC DS h0 (some (Value.int r)) hf 4 0 [(0, false, va_rf a0), (1, false, .int x1), (2, false, .int x2)] [] h dc ds := by
  unfold fn_X11_variable at hr
  intro H locs cells slots ls hH hS hl hc hs
  have X := Y.1
  refine mz_aload_n X dX11_variable_0 rfl (mz_at hl 0 rfl) ?_
  refine mz_getR X hH fl_RX11_10 dX11_variable_1 hr (fun v1 hr => ?_)
  refine lv_iload_n X.1 X.2.1 dX11_variable_4 rfl (mz_at hl 1 rfl) ?_
  refine mz_kV va_rf X hH hS hl.1.1 [.int x1] [] hr (ct_X10_typeOf l g h v1 x1) mb_RX11_48 rfl im_X10_typeOf rfl (Nat.le_of_ble_eq_true rfl) ⟨Nat.le_of_ble_eq_true rfl, Nat.le_of_ble_eq_true rfl⟩ hc hs dX11_variable_5 rfl (fun v2 h H locs cells slots dc ds hr hH hS hc hs => ?_)
  refine mz_astore_n X [(3, false, va_rf v2), (0, false, va_rf a0), (1, false, .int x1), (2, false, .int x2)] dX11_variable_8 rfl hl (by decide) rfl (fun ls hl => ?_)
  refine mz_aload_n X dX11_variable_9 rfl (mz_at hl 0 rfl) ?_
  refine mz_ifnonnull X 15 dX11_variable_10 (by decide) hr (fun hr => ?_) (fun hr => ?_)
  · refine lv_iload_n X.1 X.2.1 dX11_variable_15 rfl (mz_at hl 3 rfl) ?_
    refine mz_kS Value.int X hH hS hl.1.1 [.int x2] [] hr (ct_X11_isNumberLane l g h x2) mb_RX11_90 im_X11_isNumberLane rfl (Nat.le_of_ble_eq_true rfl) ⟨Nat.le_of_ble_eq_true rfl, Nat.le_of_ble_eq_true rfl⟩ hc hs dX11_variable_16 rfl (fun v3 h H locs cells slots dc ds hr hH hS hc hs => ?_)
    refine mz_if_ne X 25 dX11_variable_19 (by decide) hr (fun hr => ?_) (fun hr => ?_)
    · refine mz_aload_n X dX11_variable_25 rfl (mz_at hl 0 rfl) ?_
      refine mz_getI X hH fl_RX11_93 dX11_variable_26 hr (fun v4 hr => ?_)
      refine lv_iconst (v := 2) X.1 X.2.1 dX11_variable_29 (by decide) ?_
      refine mz_icmp_lt X 36 dX11_variable_30 (by decide) hr (fun hr => ?_) (fun hr => ?_)
      · refine mz_aload_n X dX11_variable_36 rfl (mz_at hl 0 rfl) ?_
        refine mz_getR X hH fl_RX11_96 dX11_variable_37 hr (fun v5 hr => ?_)
        refine mz_aload_n X dX11_variable_40 rfl (mz_at hl 0 rfl) ?_
        refine mz_getI X hH fl_RX11_93 dX11_variable_41 hr (fun v6 hr => ?_)
        refine lv_iload_n X.1 X.2.1 dX11_variable_44 rfl (mz_at hl 3 rfl) ?_
        refine mz_iast X hH hS dX11_variable_45 hr (fun h H locs hr hH hS => ?_)
        refine mz_aload_n X dX11_variable_46 rfl (mz_at hl 0 rfl) ?_
        refine mz_dupR X dX11_variable_47 ?_
        refine mz_getI X hH fl_RX11_93 dX11_variable_48 hr (fun v7 hr => ?_)
        refine lv_iconst (v := 1) X.1 X.2.1 dX11_variable_51 (by decide) ?_
        refine lv_iadd X.1 X.2.1 dX11_variable_52 ?_
        refine mz_put X hH hS fp_RX11_93 dX11_variable_53 rfl rfl hr (fun h H locs hr hH hS => ?_)
        refine mz_aload_n X dX11_variable_56 rfl (mz_at hl 0 rfl) ?_
        refine mz_getI X hH fl_RX11_93 dX11_variable_57 hr (fun v8 hr => ?_)
        refine lv_iconst (v := 1) X.1 X.2.1 dX11_variable_60 (by decide) ?_
        refine lv_isub X.1 X.2.1 dX11_variable_61 ?_
        exact mz_iret Y dX11_variable_62 hH hS hc hs hr
      · refine lv_bipush (v := (-4)) X.1 X.2.1 dX11_variable_33 (by decide) ?_
        exact mz_iret Y dX11_variable_35 hH hS hc hs hr
    · refine lv_bipush (v := (-2)) X.1 X.2.1 dX11_variable_22 (by decide) ?_
      exact mz_iret Y dX11_variable_24 hH hS hc hs hr
  · refine lv_iconst (v := (-1)) X.1 X.2.1 dX11_variable_13 (by decide) ?_
    exact mz_iret Y dX11_variable_14 hH hS hc hs hr
set_option maxRecDepth 100000 in
theorem ct_X11_variable (l : Launch) (g : mz_G) (h : mz_H) (a0 : (Option Nat)) (x1 : Int32) (x2 : Int32) (r : Int32) (hf : mz_H) (k n : Nat) (hr : fn_X11_variable h a0 x1 x2 = some (r, hf, k, n)) : mz_C l g yX11_variable cX11_variable 4 (some .int) 1 21 [va_rf a0, .int x1, .int x2] h (some (Value.int r)) hf k n := by
  refine mz_met (as := [(false, va_rf a0), (false, .int x1), (false, .int x2)]) (plainFor_of_name (by decide)) (mz_c1 (mz_cat_rf _) (mz_c1 rfl (mz_c1 rfl mz_c0))) (Nat.le_of_ble_eq_true rfl) ?_
  intro p e s m args below meth c Y
  exact pf_X11_variable_b0 r Y h a0 x1 x2 _ _ hr
theorem dX11_member_0 : decode cX11_member 0 = .ok (.aload_n 0, 1) := by decide +kernel
theorem dX11_member_1 : decode cX11_member 1 = .ok (.getfield 10, 3) := by decide +kernel
theorem dX11_member_4 : decode cX11_member 4 = .ok (.iload_n 1, 1) := by decide +kernel
theorem dX11_member_5 : decode cX11_member 5 = .ok (.invokevirtual 48, 3) := by decide +kernel
theorem dX11_member_8 : decode cX11_member 8 = .ok (.astore 7, 2) := by decide +kernel
theorem dX11_member_10 : decode cX11_member 10 = .ok (.aload 7, 2) := by decide +kernel
theorem dX11_member_12 : decode cX11_member 12 = .ok (.ifnonnull 5, 3) := by decide +kernel
theorem dX11_member_15 : decode cX11_member 15 = .ok (.iconst (-1), 1) := by decide +kernel
theorem dX11_member_16 : decode cX11_member 16 = .ok (.ireturn, 1) := by decide +kernel
theorem dX11_member_17 : decode cX11_member 17 = .ok (.iload_n 2, 1) := by decide +kernel
theorem dX11_member_18 : decode cX11_member 18 = .ok (.ifCond .lt 27, 3) := by decide +kernel
theorem dX11_member_21 : decode cX11_member 21 = .ok (.iload_n 2, 1) := by decide +kernel
theorem dX11_member_22 : decode cX11_member 22 = .ok (.iconst 3, 1) := by decide +kernel
theorem dX11_member_23 : decode cX11_member 23 = .ok (.if_icmp .ge 22, 3) := by decide +kernel
theorem dX11_member_26 : decode cX11_member 26 = .ok (.iload_n 3, 1) := by decide +kernel
theorem dX11_member_27 : decode cX11_member 27 = .ok (.invokestatic 99, 3) := by decide +kernel
theorem dX11_member_30 : decode cX11_member 30 = .ok (.ifCond .eq 15, 3) := by decide +kernel
theorem dX11_member_33 : decode cX11_member 33 = .ok (.iload 4, 2) := by decide +kernel
theorem dX11_member_35 : decode cX11_member 35 = .ok (.ifCond .lt 10, 3) := by decide +kernel
theorem dX11_member_38 : decode cX11_member 38 = .ok (.iload 4, 2) := by decide +kernel
theorem dX11_member_40 : decode cX11_member 40 = .ok (.bipush 10, 2) := by decide +kernel
theorem dX11_member_42 : decode cX11_member 42 = .ok (.if_icmp .le 6, 3) := by decide +kernel
theorem dX11_member_45 : decode cX11_member 45 = .ok (.bipush (-2), 2) := by decide +kernel
theorem dX11_member_47 : decode cX11_member 47 = .ok (.ireturn, 1) := by decide +kernel
theorem dX11_member_48 : decode cX11_member 48 = .ok (.iload 5, 2) := by decide +kernel
theorem dX11_member_50 : decode cX11_member 50 = .ok (.ifCond .lt 21, 3) := by decide +kernel
theorem dX11_member_53 : decode cX11_member 53 = .ok (.iload 5, 2) := by decide +kernel
theorem dX11_member_55 : decode cX11_member 55 = .ok (.iconst 2, 1) := by decide +kernel
theorem dX11_member_56 : decode cX11_member 56 = .ok (.if_icmp .gt 15, 3) := by decide +kernel
theorem dX11_member_59 : decode cX11_member 59 = .ok (.iload 6, 2) := by decide +kernel
theorem dX11_member_61 : decode cX11_member 61 = .ok (.ifCond .lt 10, 3) := by decide +kernel
theorem dX11_member_64 : decode cX11_member 64 = .ok (.iload 6, 2) := by decide +kernel
theorem dX11_member_66 : decode cX11_member 66 = .ok (.bipush 7, 2) := by decide +kernel
theorem dX11_member_68 : decode cX11_member 68 = .ok (.if_icmp .le 6, 3) := by decide +kernel
theorem dX11_member_71 : decode cX11_member 71 = .ok (.bipush (-2), 2) := by decide +kernel
theorem dX11_member_73 : decode cX11_member 73 = .ok (.ireturn, 1) := by decide +kernel
theorem dX11_member_74 : decode cX11_member 74 = .ok (.aload 7, 2) := by decide +kernel
theorem dX11_member_76 : decode cX11_member 76 = .ok (.iload 4, 2) := by decide +kernel
theorem dX11_member_78 : decode cX11_member 78 = .ok (.invokevirtual 102, 3) := by decide +kernel
theorem dX11_member_81 : decode cX11_member 81 = .ok (.istore 8, 2) := by decide +kernel
theorem dX11_member_83 : decode cX11_member 83 = .ok (.aload 7, 2) := by decide +kernel
theorem dX11_member_85 : decode cX11_member 85 = .ok (.iload_n 2, 1) := by decide +kernel
theorem dX11_member_86 : decode cX11_member 86 = .ok (.iload 6, 2) := by decide +kernel
theorem dX11_member_88 : decode cX11_member 88 = .ok (.invokevirtual 106, 3) := by decide +kernel
theorem dX11_member_91 : decode cX11_member 91 = .ok (.ifCond .eq 20, 3) := by decide +kernel
theorem dX11_member_94 : decode cX11_member 94 = .ok (.iload 8, 2) := by decide +kernel
theorem dX11_member_96 : decode cX11_member 96 = .ok (.bipush (-9), 2) := by decide +kernel
theorem dX11_member_98 : decode cX11_member 98 = .ok (.if_icmp .eq 13, 3) := by decide +kernel
theorem dX11_member_101 : decode cX11_member 101 = .ok (.aload 7, 2) := by decide +kernel
theorem dX11_member_103 : decode cX11_member 103 = .ok (.iload_n 2, 1) := by decide +kernel
theorem dX11_member_104 : decode cX11_member 104 = .ok (.iload_n 3, 1) := by decide +kernel
theorem dX11_member_105 : decode cX11_member 105 = .ok (.invokevirtual 109, 3) := by decide +kernel
theorem dX11_member_108 : decode cX11_member 108 = .ok (.ifCond .eq 6, 3) := by decide +kernel
theorem dX11_member_111 : decode cX11_member 111 = .ok (.bipush (-3), 2) := by decide +kernel
theorem dX11_member_113 : decode cX11_member 113 = .ok (.ireturn, 1) := by decide +kernel
theorem dX11_member_114 : decode cX11_member 114 = .ok (.aload 7, 2) := by decide +kernel
theorem dX11_member_116 : decode cX11_member 116 = .ok (.getfield 112, 3) := by decide +kernel
theorem dX11_member_119 : decode cX11_member 119 = .ok (.bipush 12, 2) := by decide +kernel
theorem dX11_member_121 : decode cX11_member 121 = .ok (.if_icmp .lt 6, 3) := by decide +kernel
theorem dX11_member_124 : decode cX11_member 124 = .ok (.bipush (-4), 2) := by decide +kernel
theorem dX11_member_126 : decode cX11_member 126 = .ok (.ireturn, 1) := by decide +kernel
theorem dX11_member_127 : decode cX11_member 127 = .ok (.aload 7, 2) := by decide +kernel
theorem dX11_member_129 : decode cX11_member 129 = .ok (.getfield 115, 3) := by decide +kernel
theorem dX11_member_132 : decode cX11_member 132 = .ok (.aload 7, 2) := by decide +kernel
theorem dX11_member_134 : decode cX11_member 134 = .ok (.getfield 112, 3) := by decide +kernel
theorem dX11_member_137 : decode cX11_member 137 = .ok (.new 119, 3) := by decide +kernel
theorem dX11_member_140 : decode cX11_member 140 = .ok (.dup, 1) := by decide +kernel
theorem dX11_member_141 : decode cX11_member 141 = .ok (.iload_n 2, 1) := by decide +kernel
theorem dX11_member_142 : decode cX11_member 142 = .ok (.iload_n 3, 1) := by decide +kernel
theorem dX11_member_143 : decode cX11_member 143 = .ok (.iload 8, 2) := by decide +kernel
theorem dX11_member_145 : decode cX11_member 145 = .ok (.iload 5, 2) := by decide +kernel
theorem dX11_member_147 : decode cX11_member 147 = .ok (.iload 6, 2) := by decide +kernel
theorem dX11_member_149 : decode cX11_member 149 = .ok (.invokespecial 121, 3) := by decide +kernel
theorem dX11_member_152 : decode cX11_member 152 = .ok (.aastore, 1) := by decide +kernel
theorem dX11_member_153 : decode cX11_member 153 = .ok (.aload 7, 2) := by decide +kernel
theorem dX11_member_155 : decode cX11_member 155 = .ok (.dup, 1) := by decide +kernel
theorem dX11_member_156 : decode cX11_member 156 = .ok (.getfield 112, 3) := by decide +kernel
theorem dX11_member_159 : decode cX11_member 159 = .ok (.iconst 1, 1) := by decide +kernel
theorem dX11_member_160 : decode cX11_member 160 = .ok (.iadd, 1) := by decide +kernel
theorem dX11_member_161 : decode cX11_member 161 = .ok (.putfield 112, 3) := by decide +kernel
theorem dX11_member_164 : decode cX11_member 164 = .ok (.aload 7, 2) := by decide +kernel
theorem dX11_member_166 : decode cX11_member 166 = .ok (.getfield 112, 3) := by decide +kernel
theorem dX11_member_169 : decode cX11_member 169 = .ok (.iconst 1, 1) := by decide +kernel
theorem dX11_member_170 : decode cX11_member 170 = .ok (.isub, 1) := by decide +kernel
theorem dX11_member_171 : decode cX11_member 171 = .ok (.ireturn, 1) := by decide +kernel
def fn_X11_member (h : mz_H) (a0 : (Option Nat)) (x1 : Int32) (x2 : Int32) (x3 : Int32) (x4 : Int32) (x5 : Int32) (x6 : Int32) : mz_Res Int32 :=
  mz_op (mz_fR h a0 10 0) fun v1 =>
  mz_chk (mz_is h v1 9) <| mz_call (fn_X10_typeOf h v1 x1) fun v2 h =>
  if v2 = none then
    mz_ret (-1) h
  else
    if x2 < 0 then
      mz_ret (-2) h
    else
      if 3 ≤ x2 then
        mz_ret (-2) h
      else
        mz_call (fn_X11_isName h x3) fun v3 h =>
        if v3 = 0 then
          mz_ret (-2) h
        else
          if x4 < 0 then
            mz_ret (-2) h
          else
            if x4 ≤ 10 then
              if x5 < 0 then
                mz_ret (-2) h
              else
                if 2 < x5 then
                  mz_ret (-2) h
                else
                  if x6 < 0 then
                    mz_ret (-2) h
                  else
                    if x6 ≤ 7 then
                      mz_chk (mz_is h v2 8) <| mz_call (fn_X9_laneMeant h v2 x4) fun v4 h =>
                      mz_chk (mz_is h v2 8) <| mz_call (fn_X9_mayHave h v2 x2 x6) fun v5 h =>
                      if v5 = 0 then
                        mz_ret (-3) h
                      else
                        if v4 = (-9) then
                          mz_ret (-3) h
                        else
                          mz_chk (mz_is h v2 8) <| mz_call (fn_X9_hasMember h v2 x2 x3) fun v6 h =>
                          if v6 = 0 then
                            mz_op (mz_fI h v2 8 8) fun v7 =>
                            if v7 < 12 then
                              mz_op (mz_fR h v2 8 7) fun v8 =>
                              mz_op (mz_fI h v2 8 8) fun v9 =>
                              mz_oN h 2 5 [.int 0, .int 0, .int 0, .int 0, .int 0] fun v10 h =>
                              mz_chk (mz_is h v10 2) <| mz_call (fn_X2_init h v10 x2 x3 v4 x5 x6) fun _ h =>
                              mz_op (mz_sR h v8 12 v9 v10) fun h =>
                              mz_op (mz_fI h v2 8 8) fun v11 =>
                              mz_op (mz_pF h v2 8 8 (Value.int (v11 + 1))) fun h =>
                              mz_op (mz_fI h v2 8 8) fun v12 =>
                              mz_ret (v12 - 1) h
                            else
                              mz_ret (-4) h
                          else
                            mz_ret (-3) h
                    else
                      mz_ret (-2) h
            else
              mz_ret (-2) h
set_option maxHeartbeats 4000000 in
set_option maxRecDepth 100000 in
theorem pf_X11_member_b0 (r : Int32) (Y : mz_Y p g RX11 cX11_member 9 (some .int) "member" (mz_AF h0) s m args meth c) (h : mz_H) (a0 : (Option Nat)) (x1 : Int32) (x2 : Int32) (x3 : Int32) (x4 : Int32) (x5 : Int32) (x6 : Int32) (dc ds : Nat) (hr : fn_X11_member h a0 x1 x2 x3 x4 x5 x6 = some (r, hf, dc, ds)) : mz_Go l g p e s m args below meth c 2 45 DC DS h0 (some (Value.int r)) hf 9 0 [(0, false, va_rf a0), (1, false, .int x1), (2, false, .int x2), (3, false, .int x3), (4, false, .int x4), (5, false, .int x5), (6, false, .int x6)] [] h dc ds := by
  unfold fn_X11_member at hr
  intro H locs cells slots ls hH hS hl hc hs
  have X := Y.1
  refine mz_aload_n X dX11_member_0 rfl (mz_at hl 0 rfl) ?_
  refine mz_getR X hH fl_RX11_10 dX11_member_1 hr (fun v1 hr => ?_)
  refine lv_iload_n X.1 X.2.1 dX11_member_4 rfl (mz_at hl 1 rfl) ?_
  refine mz_kV va_rf X hH hS hl.1.1 [.int x1] [] hr (ct_X10_typeOf l g h v1 x1) mb_RX11_48 rfl im_X10_typeOf rfl (Nat.le_of_ble_eq_true rfl) ⟨Nat.le_of_ble_eq_true rfl, Nat.le_of_ble_eq_true rfl⟩ hc hs dX11_member_5 rfl (fun v2 h H locs cells slots dc ds hr hH hS hc hs => ?_)
  refine mz_astore X [(7, false, va_rf v2), (0, false, va_rf a0), (1, false, .int x1), (2, false, .int x2), (3, false, .int x3), (4, false, .int x4), (5, false, .int x5), (6, false, .int x6)] dX11_member_8 hl (by decide) rfl (fun ls hl => ?_)
  refine mz_aload X dX11_member_10 (mz_at hl 0 rfl) ?_
  refine mz_ifnonnull X 17 dX11_member_12 (by decide) hr (fun hr => ?_) (fun hr => ?_)
  · refine lv_iload_n X.1 X.2.1 dX11_member_17 rfl (mz_at hl 3 rfl) ?_
    refine mz_if_lt X 45 dX11_member_18 (by decide) hr (fun hr => ?_) (fun hr => ?_)
    · refine lv_bipush (v := (-2)) X.1 X.2.1 dX11_member_45 (by decide) ?_
      exact mz_iret Y dX11_member_47 hH hS hc hs hr
    · refine lv_iload_n X.1 X.2.1 dX11_member_21 rfl (mz_at hl 3 rfl) ?_
      refine lv_iconst (v := 3) X.1 X.2.1 dX11_member_22 (by decide) ?_
      refine mz_icmp_ge X 45 dX11_member_23 (by decide) hr (fun hr => ?_) (fun hr => ?_)
      · refine lv_bipush (v := (-2)) X.1 X.2.1 dX11_member_45 (by decide) ?_
        exact mz_iret Y dX11_member_47 hH hS hc hs hr
      · refine lv_iload_n X.1 X.2.1 dX11_member_26 rfl (mz_at hl 4 rfl) ?_
        refine mz_kS Value.int X hH hS hl.1.1 [.int x3] [] hr (ct_X11_isName l g h x3) mb_RX11_99 im_X11_isName rfl (Nat.le_of_ble_eq_true rfl) ⟨Nat.le_of_ble_eq_true rfl, Nat.le_of_ble_eq_true rfl⟩ hc hs dX11_member_27 rfl (fun v3 h H locs cells slots dc ds hr hH hS hc hs => ?_)
        refine mz_if_eq X 45 dX11_member_30 (by decide) hr (fun hr => ?_) (fun hr => ?_)
        · refine lv_bipush (v := (-2)) X.1 X.2.1 dX11_member_45 (by decide) ?_
          exact mz_iret Y dX11_member_47 hH hS hc hs hr
        · refine lv_iload X.1 X.2.1 dX11_member_33 (mz_at hl 5 rfl) ?_
          refine mz_if_lt X 45 dX11_member_35 (by decide) hr (fun hr => ?_) (fun hr => ?_)
          · refine lv_bipush (v := (-2)) X.1 X.2.1 dX11_member_45 (by decide) ?_
            exact mz_iret Y dX11_member_47 hH hS hc hs hr
          · refine lv_iload X.1 X.2.1 dX11_member_38 (mz_at hl 5 rfl) ?_
            refine lv_bipush (v := 10) X.1 X.2.1 dX11_member_40 (by decide) ?_
            refine mz_icmp_le X 48 dX11_member_42 (by decide) hr (fun hr => ?_) (fun hr => ?_)
            · refine lv_iload X.1 X.2.1 dX11_member_48 (mz_at hl 6 rfl) ?_
              refine mz_if_lt X 71 dX11_member_50 (by decide) hr (fun hr => ?_) (fun hr => ?_)
              · refine lv_bipush (v := (-2)) X.1 X.2.1 dX11_member_71 (by decide) ?_
                exact mz_iret Y dX11_member_73 hH hS hc hs hr
              · refine lv_iload X.1 X.2.1 dX11_member_53 (mz_at hl 6 rfl) ?_
                refine lv_iconst (v := 2) X.1 X.2.1 dX11_member_55 (by decide) ?_
                refine mz_icmp_gt X 71 dX11_member_56 (by decide) hr (fun hr => ?_) (fun hr => ?_)
                · refine lv_bipush (v := (-2)) X.1 X.2.1 dX11_member_71 (by decide) ?_
                  exact mz_iret Y dX11_member_73 hH hS hc hs hr
                · refine lv_iload X.1 X.2.1 dX11_member_59 (mz_at hl 7 rfl) ?_
                  refine mz_if_lt X 71 dX11_member_61 (by decide) hr (fun hr => ?_) (fun hr => ?_)
                  · refine lv_bipush (v := (-2)) X.1 X.2.1 dX11_member_71 (by decide) ?_
                    exact mz_iret Y dX11_member_73 hH hS hc hs hr
                  · refine lv_iload X.1 X.2.1 dX11_member_64 (mz_at hl 7 rfl) ?_
                    refine lv_bipush (v := 7) X.1 X.2.1 dX11_member_66 (by decide) ?_
                    refine mz_icmp_le X 74 dX11_member_68 (by decide) hr (fun hr => ?_) (fun hr => ?_)
                    · refine mz_aload X dX11_member_74 (mz_at hl 0 rfl) ?_
                      refine lv_iload X.1 X.2.1 dX11_member_76 (mz_at hl 5 rfl) ?_
                      refine mz_kV Value.int X hH hS hl.1.1 [.int x4] [] hr (ct_X9_laneMeant l g h v2 x4) mb_RX11_102 rfl im_X9_laneMeant rfl (Nat.le_of_ble_eq_true rfl) ⟨Nat.le_of_ble_eq_true rfl, Nat.le_of_ble_eq_true rfl⟩ hc hs dX11_member_78 rfl (fun v4 h H locs cells slots dc ds hr hH hS hc hs => ?_)
                      refine mz_istore X [(8, false, .int v4), (7, false, va_rf v2), (0, false, va_rf a0), (1, false, .int x1), (2, false, .int x2), (3, false, .int x3), (4, false, .int x4), (5, false, .int x5), (6, false, .int x6)] dX11_member_81 hl (by decide) rfl (fun ls hl => ?_)
                      refine mz_aload X dX11_member_83 (mz_at hl 1 rfl) ?_
                      refine lv_iload_n X.1 X.2.1 dX11_member_85 rfl (mz_at hl 4 rfl) ?_
                      refine lv_iload X.1 X.2.1 dX11_member_86 (mz_at hl 8 rfl) ?_
                      refine mz_kV Value.int X hH hS hl.1.1 [.int x2, .int x6] [] hr (ct_X9_mayHave l g h v2 x2 x6) mb_RX11_106 rfl im_X9_mayHave rfl (Nat.le_of_ble_eq_true rfl) ⟨Nat.le_of_ble_eq_true rfl, Nat.le_of_ble_eq_true rfl⟩ hc hs dX11_member_88 rfl (fun v5 h H locs cells slots dc ds hr hH hS hc hs => ?_)
                      refine mz_if_eq X 111 dX11_member_91 (by decide) hr (fun hr => ?_) (fun hr => ?_)
                      · refine lv_bipush (v := (-3)) X.1 X.2.1 dX11_member_111 (by decide) ?_
                        exact mz_iret Y dX11_member_113 hH hS hc hs hr
                      · refine lv_iload X.1 X.2.1 dX11_member_94 (mz_at hl 0 rfl) ?_
                        refine lv_bipush (v := (-9)) X.1 X.2.1 dX11_member_96 (by decide) ?_
                        refine mz_icmp_eq X 111 dX11_member_98 (by decide) hr (fun hr => ?_) (fun hr => ?_)
                        · refine lv_bipush (v := (-3)) X.1 X.2.1 dX11_member_111 (by decide) ?_
                          exact mz_iret Y dX11_member_113 hH hS hc hs hr
                        · refine mz_aload X dX11_member_101 (mz_at hl 1 rfl) ?_
                          refine lv_iload_n X.1 X.2.1 dX11_member_103 rfl (mz_at hl 4 rfl) ?_
                          refine lv_iload_n X.1 X.2.1 dX11_member_104 rfl (mz_at hl 5 rfl) ?_
                          refine mz_kV Value.int X hH hS hl.1.1 [.int x2, .int x3] [] hr (ct_X9_hasMember l g h v2 x2 x3) mb_RX11_109 rfl im_X9_hasMember rfl (Nat.le_of_ble_eq_true rfl) ⟨Nat.le_of_ble_eq_true rfl, Nat.le_of_ble_eq_true rfl⟩ hc hs dX11_member_105 rfl (fun v6 h H locs cells slots dc ds hr hH hS hc hs => ?_)
                          refine mz_if_eq X 114 dX11_member_108 (by decide) hr (fun hr => ?_) (fun hr => ?_)
                          · refine mz_aload X dX11_member_114 (mz_at hl 1 rfl) ?_
                            refine mz_getI X hH fl_RX11_112 dX11_member_116 hr (fun v7 hr => ?_)
                            refine lv_bipush (v := 12) X.1 X.2.1 dX11_member_119 (by decide) ?_
                            refine mz_icmp_lt X 127 dX11_member_121 (by decide) hr (fun hr => ?_) (fun hr => ?_)
                            · refine mz_aload X dX11_member_127 (mz_at hl 1 rfl) ?_
                              refine mz_getR X hH fl_RX11_115 dX11_member_129 hr (fun v8 hr => ?_)
                              refine mz_aload X dX11_member_132 (mz_at hl 1 rfl) ?_
                              refine mz_getI X hH fl_RX11_112 dX11_member_134 hr (fun v9 hr => ?_)
                              refine mz_kN X hH hS tyX2 rfl cl_2 tyX2_ok ⟨mz_tb 360 (by decide +kernel) rfl, mz_tb 361 (by decide +kernel) rfl, mz_tb 47 (by decide +kernel) rfl⟩ nw_2 dX11_member_137 hr hc hs (fun v10 h H cells slots dc ds hr hH hS hc hs => ?_)
                              refine mz_dupR X dX11_member_140 ?_
                              refine lv_iload_n X.1 X.2.1 dX11_member_141 rfl (mz_at hl 4 rfl) ?_
                              refine lv_iload_n X.1 X.2.1 dX11_member_142 rfl (mz_at hl 5 rfl) ?_
                              refine lv_iload X.1 X.2.1 dX11_member_143 (mz_at hl 0 rfl) ?_
                              refine lv_iload X.1 X.2.1 dX11_member_145 (mz_at hl 7 rfl) ?_
                              refine lv_iload X.1 X.2.1 dX11_member_147 (mz_at hl 8 rfl) ?_
                              refine mz_kI X hH hS hl.1.1 [.int x2, .int x3, .int v4, .int x5, .int x6] [va_rf v10, .int v9, va_rf v8] hr (ct_X2_init l g h v10 x2 x3 v4 x5 x6) mb_RX11_121 im_X2_init rfl rfl (Nat.le_of_ble_eq_true rfl) ⟨Nat.le_of_ble_eq_true rfl, Nat.le_of_ble_eq_true rfl⟩ hc hs dX11_member_149 rfl (fun _ h H locs cells slots dc ds hr hH hS hc hs => ?_)
                              refine mz_aast (t := 12) X hH hS (by decide) rfl rfl dX11_member_152 hr (fun h H locs hr hH hS => ?_)
                              refine mz_aload X dX11_member_153 (mz_at hl 1 rfl) ?_
                              refine mz_dupR X dX11_member_155 ?_
                              refine mz_getI X hH fl_RX11_112 dX11_member_156 hr (fun v11 hr => ?_)
                              refine lv_iconst (v := 1) X.1 X.2.1 dX11_member_159 (by decide) ?_
                              refine lv_iadd X.1 X.2.1 dX11_member_160 ?_
                              refine mz_put X hH hS fp_RX11_112 dX11_member_161 rfl rfl hr (fun h H locs hr hH hS => ?_)
                              refine mz_aload X dX11_member_164 (mz_at hl 1 rfl) ?_
                              refine mz_getI X hH fl_RX11_112 dX11_member_166 hr (fun v12 hr => ?_)
                              refine lv_iconst (v := 1) X.1 X.2.1 dX11_member_169 (by decide) ?_
                              refine lv_isub X.1 X.2.1 dX11_member_170 ?_
                              exact mz_iret Y dX11_member_171 hH hS hc hs hr
                            · refine lv_bipush (v := (-4)) X.1 X.2.1 dX11_member_124 (by decide) ?_
                              exact mz_iret Y dX11_member_126 hH hS hc hs hr
                          · refine lv_bipush (v := (-3)) X.1 X.2.1 dX11_member_111 (by decide) ?_
                            exact mz_iret Y dX11_member_113 hH hS hc hs hr
                    · refine lv_bipush (v := (-2)) X.1 X.2.1 dX11_member_71 (by decide) ?_
                      exact mz_iret Y dX11_member_73 hH hS hc hs hr
            · refine lv_bipush (v := (-2)) X.1 X.2.1 dX11_member_45 (by decide) ?_
              exact mz_iret Y dX11_member_47 hH hS hc hs hr
  · refine lv_iconst (v := (-1)) X.1 X.2.1 dX11_member_15 (by decide) ?_
    exact mz_iret Y dX11_member_16 hH hS hc hs hr
set_option maxRecDepth 100000 in
theorem ct_X11_member (l : Launch) (g : mz_G) (h : mz_H) (a0 : (Option Nat)) (x1 : Int32) (x2 : Int32) (x3 : Int32) (x4 : Int32) (x5 : Int32) (x6 : Int32) (r : Int32) (hf : mz_H) (k n : Nat) (hr : fn_X11_member h a0 x1 x2 x3 x4 x5 x6 = some (r, hf, k, n)) : mz_C l g yX11_member cX11_member 9 (some .int) 2 45 [va_rf a0, .int x1, .int x2, .int x3, .int x4, .int x5, .int x6] h (some (Value.int r)) hf k n := by
  refine mz_met (as := [(false, va_rf a0), (false, .int x1), (false, .int x2), (false, .int x3), (false, .int x4), (false, .int x5), (false, .int x6)]) (plainFor_of_name (by decide)) (mz_c1 (mz_cat_rf _) (mz_c1 rfl (mz_c1 rfl (mz_c1 rfl (mz_c1 rfl (mz_c1 rfl (mz_c1 rfl mz_c0))))))) (Nat.le_of_ble_eq_true rfl) ?_
  intro p e s m args below meth c Y
  exact pf_X11_member_b0 r Y h a0 x1 x2 x3 x4 x5 x6 _ _ hr
end

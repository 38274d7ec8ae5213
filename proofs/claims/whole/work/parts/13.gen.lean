/-! X5_isLike X5_curveAt X6_init X6_init_ X6_hasNothing X6_empty X6_fillAnew X6_length X6_rowAt X6_faultAt X6_cellAt X6_putCell X6_areLike X6_isLike X7_init -/
section
variable {p : Program} {l : Launch} {e : Env} {s : State} {m : MethodId} {args : Array Value} {below : List Frame} {meth : Method} {c : Code} {g : mz_G} {h0 hf : mz_H} {DC DS : Nat}
theorem dX5_isLike_0 : decode cX5_isLike 0 = .ok (.aload_n 0, 1) := by decide +kernel
theorem dX5_isLike_1 : decode cX5_isLike 1 = .ok (.getfield 15, 3) := by decide +kernel
theorem dX5_isLike_4 : decode cX5_isLike 4 = .ok (.arraylength, 1) := by decide +kernel
theorem dX5_isLike_5 : decode cX5_isLike 5 = .ok (.aload_n 1, 1) := by decide +kernel
theorem dX5_isLike_6 : decode cX5_isLike 6 = .ok (.getfield 15, 3) := by decide +kernel
theorem dX5_isLike_9 : decode cX5_isLike 9 = .ok (.arraylength, 1) := by decide +kernel
theorem dX5_isLike_10 : decode cX5_isLike 10 = .ok (.if_icmp .eq 5, 3) := by decide +kernel
theorem dX5_isLike_13 : decode cX5_isLike 13 = .ok (.iconst 0, 1) := by decide +kernel
theorem dX5_isLike_14 : decode cX5_isLike 14 = .ok (.ireturn, 1) := by decide +kernel
theorem dX5_isLike_15 : decode cX5_isLike 15 = .ok (.iconst 0, 1) := by decide +kernel
theorem dX5_isLike_16 : decode cX5_isLike 16 = .ok (.istore_n 2, 1) := by decide +kernel
theorem dX5_isLike_17 : decode cX5_isLike 17 = .ok (.iload_n 2, 1) := by decide +kernel
theorem dX5_isLike_18 : decode cX5_isLike 18 = .ok (.aload_n 0, 1) := by decide +kernel
theorem dX5_isLike_19 : decode cX5_isLike 19 = .ok (.getfield 15, 3) := by decide +kernel
theorem dX5_isLike_22 : decode cX5_isLike 22 = .ok (.arraylength, 1) := by decide +kernel
theorem dX5_isLike_23 : decode cX5_isLike 23 = .ok (.if_icmp .ge 27, 3) := by decide +kernel
theorem dX5_isLike_26 : decode cX5_isLike 26 = .ok (.aload_n 0, 1) := by decide +kernel
theorem dX5_isLike_27 : decode cX5_isLike 27 = .ok (.getfield 15, 3) := by decide +kernel
theorem dX5_isLike_30 : decode cX5_isLike 30 = .ok (.iload_n 2, 1) := by decide +kernel
theorem dX5_isLike_31 : decode cX5_isLike 31 = .ok (.laload, 1) := by decide +kernel
theorem dX5_isLike_32 : decode cX5_isLike 32 = .ok (.aload_n 1, 1) := by decide +kernel
theorem dX5_isLike_33 : decode cX5_isLike 33 = .ok (.getfield 15, 3) := by decide +kernel
theorem dX5_isLike_36 : decode cX5_isLike 36 = .ok (.iload_n 2, 1) := by decide +kernel
theorem dX5_isLike_37 : decode cX5_isLike 37 = .ok (.laload, 1) := by decide +kernel
theorem dX5_isLike_38 : decode cX5_isLike 38 = .ok (.lcmp, 1) := by decide +kernel
theorem dX5_isLike_39 : decode cX5_isLike 39 = .ok (.ifCond .eq 5, 3) := by decide +kernel
theorem dX5_isLike_42 : decode cX5_isLike 42 = .ok (.iconst 0, 1) := by decide +kernel
theorem dX5_isLike_43 : decode cX5_isLike 43 = .ok (.ireturn, 1) := by decide +kernel
theorem dX5_isLike_44 : decode cX5_isLike 44 = .ok (.iinc 2 1, 3) := by decide +kernel
theorem dX5_isLike_47 : decode cX5_isLike 47 = .ok (.goto (-30), 3) := by decide +kernel
theorem dX5_isLike_50 : decode cX5_isLike 50 = .ok (.iconst 1, 1) := by decide +kernel
theorem dX5_isLike_51 : decode cX5_isLike 51 = .ok (.ireturn, 1) := by decide +kernel
def fn_X5_isLike_b17 : Nat → mz_H → (Option Nat) → (Option Nat) → Int32 → mz_Res Int32
  | 0, _, _, _, _ => none
  | n + 1, h, a0, a1, x2 =>
    mz_op (mz_fR h a0 4 0) fun v1 =>
    mz_op (mz_len h v1 1) fun v2 =>
    if v2 ≤ x2 then
      mz_chk ((1 : Int32) &&& 1 == 1) (mz_ret 1 h)
    else
      mz_op (mz_fR h a0 4 0) fun v3 =>
      mz_op (mz_aJ h v3 x2) fun v4 =>
      mz_op (mz_fR h a1 4 0) fun v5 =>
      mz_op (mz_aJ h v5 x2) fun v6 =>
      if (lg_cmp v4 v6) = 0 then
        mz_op (some (x2 + 1)) fun v7 =>
        fn_X5_isLike_b17 n h a0 a1 v7
      else
        mz_chk ((0 : Int32) &&& 1 == 0) (mz_ret 0 h)
set_option maxHeartbeats 4000000 in
set_option maxRecDepth 100000 in
theorem pf_X5_isLike_b17 (r : Int32) (Y : mz_Y p g RX5 cX5_isLike 3 (some .boolean) "isLike" (mz_AF h0) s m args meth c) : ∀ (n : Nat) (h : mz_H) (a0 : (Option Nat)) (a1 : (Option Nat)) (x2 : Int32) (dc ds : Nat), fn_X5_isLike_b17 n h a0 a1 x2 = some (r, hf, dc, ds) → mz_Go l g p e s m args below meth c 0 0 DC DS h0 (some (Value.int r)) hf 3 17 [(0, false, va_rf a0), (1, false, va_rf a1), (2, false, .int x2)] [] h dc ds := by
  have X := Y.1
  intro n
  induction n with
  | zero => intro h a0 a1 x2 dc ds hr; simp [fn_X5_isLike_b17] at hr
  | succ n ih =>
    intro h a0 a1 x2 dc ds hr
    rw [fn_X5_isLike_b17] at hr
    intro H locs cells slots ls hH hS hl hc hs
    refine lv_iload_n X.1 X.2.1 dX5_isLike_17 rfl (mz_at hl 2 rfl) ?_
    refine mz_aload_n X dX5_isLike_18 rfl (mz_at hl 0 rfl) ?_
    refine mz_getR X hH fl_RX5_15 dX5_isLike_19 hr (fun v1 hr => ?_)
    refine mz_alen (t := 1) X hH (by decide) dX5_isLike_22 hr (fun v2 hr => ?_)
    refine mz_icmp_ge X 50 dX5_isLike_23 (by decide) hr (fun hr => ?_) (fun hr => ?_)
    · refine lv_iconst (v := 1) X.1 X.2.1 dX5_isLike_50 (by decide) ?_
      exact mz_zret Y dX5_isLike_51 hH hS hc hs hr
    · refine mz_aload_n X dX5_isLike_26 rfl (mz_at hl 0 rfl) ?_
      refine mz_getR X hH fl_RX5_15 dX5_isLike_27 hr (fun v3 hr => ?_)
      refine lv_iload_n X.1 X.2.1 dX5_isLike_30 rfl (mz_at hl 2 rfl) ?_
      refine mz_lald X hH dX5_isLike_31 hr (fun v4 hr => ?_)
      refine mz_aload_n X dX5_isLike_32 rfl (mz_at hl 1 rfl) ?_
      refine mz_getR X hH fl_RX5_15 dX5_isLike_33 hr (fun v5 hr => ?_)
      refine lv_iload_n X.1 X.2.1 dX5_isLike_36 rfl (mz_at hl 2 rfl) ?_
      refine mz_lald X hH dX5_isLike_37 hr (fun v6 hr => ?_)
      refine W.lcmp X.1 X.2.1 dX5_isLike_38 ?_
      refine mz_if_eq X 44 dX5_isLike_39 (by decide) hr (fun hr => ?_) (fun hr => ?_)
      · obtain ⟨v7, hv7, hr⟩ := mz_op_some hr
        have hv7 := Option.some.inj hv7
        refine mz_iinc (k := 2) X [(2, false, .int v7), (0, false, va_rf a0), (1, false, va_rf a1)] v7 dX5_isLike_44 hl rfl hv7 (by decide) rfl (fun ls hl => ?_)
        refine lv_goto (tgt := 17) X.1 X.2.1 dX5_isLike_47 (by decide) ?_
        exact ih h a0 a1 v7 _ _ hr H locs cells slots ls hH hS (mz_sub hl [1, 2, 0] rfl) hc hs
      · refine lv_iconst (v := 0) X.1 X.2.1 dX5_isLike_42 (by decide) ?_
        exact mz_zret Y dX5_isLike_43 hH hS hc hs hr
def fn_X5_isLike (h : mz_H) (a0 : (Option Nat)) (a1 : (Option Nat)) : mz_Res Int32 :=
  mz_op (mz_fR h a0 4 0) fun v1 =>
  mz_op (mz_len h v1 1) fun v2 =>
  mz_op (mz_fR h a1 4 0) fun v3 =>
  mz_op (mz_len h v3 1) fun v4 =>
  if v2 = v4 then
    fn_X5_isLike_b17 1001 h a0 a1 0
  else
    mz_chk ((0 : Int32) &&& 1 == 0) (mz_ret 0 h)
set_option maxHeartbeats 4000000 in
set_option maxRecDepth 100000 in
theorem pf_X5_isLike_b0 (r : Int32) (Y : mz_Y p g RX5 cX5_isLike 3 (some .boolean) "isLike" (mz_AF h0) s m args meth c) (h : mz_H) (a0 : (Option Nat)) (a1 : (Option Nat)) (dc ds : Nat) (hr : fn_X5_isLike h a0 a1 = some (r, hf, dc, ds)) : mz_Go l g p e s m args below meth c 0 0 DC DS h0 (some (Value.int r)) hf 3 0 [(0, false, va_rf a0), (1, false, va_rf a1)] [] h dc ds := by
  unfold fn_X5_isLike at hr
  intro H locs cells slots ls hH hS hl hc hs
  have X := Y.1
  refine mz_aload_n X dX5_isLike_0 rfl (mz_at hl 0 rfl) ?_
  refine mz_getR X hH fl_RX5_15 dX5_isLike_1 hr (fun v1 hr => ?_)
  refine mz_alen (t := 1) X hH (by decide) dX5_isLike_4 hr (fun v2 hr => ?_)
  refine mz_aload_n X dX5_isLike_5 rfl (mz_at hl 1 rfl) ?_
  refine mz_getR X hH fl_RX5_15 dX5_isLike_6 hr (fun v3 hr => ?_)
  refine mz_alen (t := 1) X hH (by decide) dX5_isLike_9 hr (fun v4 hr => ?_)
  refine mz_icmp_eq X 15 dX5_isLike_10 (by decide) hr (fun hr => ?_) (fun hr => ?_)
  · refine lv_iconst (v := 0) X.1 X.2.1 dX5_isLike_15 (by decide) ?_
    refine mz_istore_n X [(2, false, .int 0), (0, false, va_rf a0), (1, false, va_rf a1)] dX5_isLike_16 rfl hl (by decide) rfl (fun ls hl => ?_)
    exact pf_X5_isLike_b17 r Y 1001 h a0 a1 0 _ _ hr H locs cells slots ls hH hS (mz_sub hl [1, 2, 0] rfl) hc hs
  · refine lv_iconst (v := 0) X.1 X.2.1 dX5_isLike_13 (by decide) ?_
    exact mz_zret Y dX5_isLike_14 hH hS hc hs hr
set_option maxRecDepth 100000 in
theorem ct_X5_isLike (l : Launch) (g : mz_G) (h : mz_H) (a0 : (Option Nat)) (a1 : (Option Nat)) (r : Int32) (hf : mz_H) (k n : Nat) (hr : fn_X5_isLike h a0 a1 = some (r, hf, k, n)) : mz_C l g yX5_isLike cX5_isLike 3 (some .boolean) 0 0 [va_rf a0, va_rf a1] h (some (Value.int r)) hf k n := by
  refine mz_met (as := [(false, va_rf a0), (false, va_rf a1)]) (plainFor_of_name (by decide)) (mz_c1 (mz_cat_rf _) (mz_c1 (mz_cat_rf _) mz_c0)) (Nat.le_of_ble_eq_true rfl) ?_
  intro p e s m args below meth c Y
  exact pf_X5_isLike_b0 r Y h a0 a1 _ _ hr
theorem dX5_curveAt_0 : decode cX5_curveAt 0 = .ok (.aload_n 0, 1) := by decide +kernel
theorem dX5_curveAt_1 : decode cX5_curveAt 1 = .ok (.getfield 15, 3) := by decide +kernel
theorem dX5_curveAt_4 : decode cX5_curveAt 4 = .ok (.arraylength, 1) := by decide +kernel
theorem dX5_curveAt_5 : decode cX5_curveAt 5 = .ok (.ifCond .ne 7, 3) := by decide +kernel
theorem dX5_curveAt_8 : decode cX5_curveAt 8 = .ok (.ldc2_w 36, 3) := by decide +kernel
theorem dX5_curveAt_11 : decode cX5_curveAt 11 = .ok (.lreturn, 1) := by decide +kernel
theorem dX5_curveAt_12 : decode cX5_curveAt 12 = .ok (.lload_n 1, 1) := by decide +kernel
theorem dX5_curveAt_13 : decode cX5_curveAt 13 = .ok (.invokestatic 38, 3) := by decide +kernel
theorem dX5_curveAt_16 : decode cX5_curveAt 16 = .ok (.lstore_n 3, 1) := by decide +kernel
theorem dX5_curveAt_17 : decode cX5_curveAt 17 = .ok (.lload_n 1, 1) := by decide +kernel
theorem dX5_curveAt_18 : decode cX5_curveAt 18 = .ok (.lload_n 3, 1) := by decide +kernel
theorem dX5_curveAt_19 : decode cX5_curveAt 19 = .ok (.invokestatic 42, 3) := by decide +kernel
theorem dX5_curveAt_22 : decode cX5_curveAt 22 = .ok (.invokestatic 45, 3) := by decide +kernel
theorem dX5_curveAt_25 : decode cX5_curveAt 25 = .ok (.lstore 5, 2) := by decide +kernel
theorem dX5_curveAt_27 : decode cX5_curveAt 27 = .ok (.lload_n 3, 1) := by decide +kernel
theorem dX5_curveAt_28 : decode cX5_curveAt 28 = .ok (.invokestatic 49, 3) := by decide +kernel
theorem dX5_curveAt_31 : decode cX5_curveAt 31 = .ok (.aload_n 0, 1) := by decide +kernel
theorem dX5_curveAt_32 : decode cX5_curveAt 32 = .ok (.getfield 15, 3) := by decide +kernel
theorem dX5_curveAt_35 : decode cX5_curveAt 35 = .ok (.arraylength, 1) := by decide +kernel
theorem dX5_curveAt_36 : decode cX5_curveAt 36 = .ok (.i2l, 1) := by decide +kernel
theorem dX5_curveAt_37 : decode cX5_curveAt 37 = .ok (.invokestatic 52, 3) := by decide +kernel
theorem dX5_curveAt_40 : decode cX5_curveAt 40 = .ok (.l2i, 1) := by decide +kernel
theorem dX5_curveAt_41 : decode cX5_curveAt 41 = .ok (.istore 7, 2) := by decide +kernel
theorem dX5_curveAt_43 : decode cX5_curveAt 43 = .ok (.iload 7, 2) := by decide +kernel
theorem dX5_curveAt_45 : decode cX5_curveAt 45 = .ok (.iconst 1, 1) := by decide +kernel
theorem dX5_curveAt_46 : decode cX5_curveAt 46 = .ok (.iadd, 1) := by decide +kernel
theorem dX5_curveAt_47 : decode cX5_curveAt 47 = .ok (.aload_n 0, 1) := by decide +kernel
theorem dX5_curveAt_48 : decode cX5_curveAt 48 = .ok (.getfield 15, 3) := by decide +kernel
theorem dX5_curveAt_51 : decode cX5_curveAt 51 = .ok (.arraylength, 1) := by decide +kernel
theorem dX5_curveAt_52 : decode cX5_curveAt 52 = .ok (.if_icmp .ge 10, 3) := by decide +kernel
theorem dX5_curveAt_55 : decode cX5_curveAt 55 = .ok (.iload 7, 2) := by decide +kernel
theorem dX5_curveAt_57 : decode cX5_curveAt 57 = .ok (.iconst 1, 1) := by decide +kernel
theorem dX5_curveAt_58 : decode cX5_curveAt 58 = .ok (.iadd, 1) := by decide +kernel
theorem dX5_curveAt_59 : decode cX5_curveAt 59 = .ok (.goto 4, 3) := by decide +kernel
theorem dX5_curveAt_62 : decode cX5_curveAt 62 = .ok (.iconst 0, 1) := by decide +kernel
theorem dX5_curveAt_63 : decode cX5_curveAt 63 = .ok (.istore 8, 2) := by decide +kernel
theorem dX5_curveAt_65 : decode cX5_curveAt 65 = .ok (.aload_n 0, 1) := by decide +kernel
theorem dX5_curveAt_66 : decode cX5_curveAt 66 = .ok (.getfield 15, 3) := by decide +kernel
theorem dX5_curveAt_69 : decode cX5_curveAt 69 = .ok (.iload 7, 2) := by decide +kernel
theorem dX5_curveAt_71 : decode cX5_curveAt 71 = .ok (.laload, 1) := by decide +kernel
theorem dX5_curveAt_72 : decode cX5_curveAt 72 = .ok (.lstore 9, 2) := by decide +kernel
theorem dX5_curveAt_74 : decode cX5_curveAt 74 = .ok (.aload_n 0, 1) := by decide +kernel
theorem dX5_curveAt_75 : decode cX5_curveAt 75 = .ok (.getfield 15, 3) := by decide +kernel
theorem dX5_curveAt_78 : decode cX5_curveAt 78 = .ok (.iload 8, 2) := by decide +kernel
theorem dX5_curveAt_80 : decode cX5_curveAt 80 = .ok (.laload, 1) := by decide +kernel
theorem dX5_curveAt_81 : decode cX5_curveAt 81 = .ok (.lstore 11, 2) := by decide +kernel
theorem dX5_curveAt_83 : decode cX5_curveAt 83 = .ok (.lload 5, 2) := by decide +kernel
theorem dX5_curveAt_85 : decode cX5_curveAt 85 = .ok (.invokestatic 55, 3) := by decide +kernel
theorem dX5_curveAt_88 : decode cX5_curveAt 88 = .ok (.ifCond .eq 20, 3) := by decide +kernel
theorem dX5_curveAt_91 : decode cX5_curveAt 91 = .ok (.lload 9, 2) := by decide +kernel
theorem dX5_curveAt_93 : decode cX5_curveAt 93 = .ok (.invokestatic 59, 3) := by decide +kernel
theorem dX5_curveAt_96 : decode cX5_curveAt 96 = .ok (.ifCond .eq 8, 3) := by decide +kernel
theorem dX5_curveAt_99 : decode cX5_curveAt 99 = .ok (.lload 9, 2) := by decide +kernel
theorem dX5_curveAt_101 : decode cX5_curveAt 101 = .ok (.goto 6, 3) := by decide +kernel
theorem dX5_curveAt_104 : decode cX5_curveAt 104 = .ok (.ldc2_w 36, 3) := by decide +kernel
theorem dX5_curveAt_107 : decode cX5_curveAt 107 = .ok (.lreturn, 1) := by decide +kernel
theorem dX5_curveAt_108 : decode cX5_curveAt 108 = .ok (.lload 9, 2) := by decide +kernel
theorem dX5_curveAt_110 : decode cX5_curveAt 110 = .ok (.invokestatic 59, 3) := by decide +kernel
theorem dX5_curveAt_113 : decode cX5_curveAt 113 = .ok (.ifCond .eq 11, 3) := by decide +kernel
theorem dX5_curveAt_116 : decode cX5_curveAt 116 = .ok (.lload 11, 2) := by decide +kernel
theorem dX5_curveAt_118 : decode cX5_curveAt 118 = .ok (.invokestatic 59, 3) := by decide +kernel
theorem dX5_curveAt_121 : decode cX5_curveAt 121 = .ok (.ifCond .ne 7, 3) := by decide +kernel
theorem dX5_curveAt_124 : decode cX5_curveAt 124 = .ok (.ldc2_w 36, 3) := by decide +kernel
theorem dX5_curveAt_127 : decode cX5_curveAt 127 = .ok (.lreturn, 1) := by decide +kernel
theorem dX5_curveAt_128 : decode cX5_curveAt 128 = .ok (.lload 11, 2) := by decide +kernel
theorem dX5_curveAt_130 : decode cX5_curveAt 130 = .ok (.lload 9, 2) := by decide +kernel
theorem dX5_curveAt_132 : decode cX5_curveAt 132 = .ok (.invokestatic 42, 3) := by decide +kernel
theorem dX5_curveAt_135 : decode cX5_curveAt 135 = .ok (.invokestatic 45, 3) := by decide +kernel
theorem dX5_curveAt_138 : decode cX5_curveAt 138 = .ok (.lstore 13, 2) := by decide +kernel
theorem dX5_curveAt_140 : decode cX5_curveAt 140 = .ok (.lload 9, 2) := by decide +kernel
theorem dX5_curveAt_142 : decode cX5_curveAt 142 = .ok (.lload 13, 2) := by decide +kernel
theorem dX5_curveAt_144 : decode cX5_curveAt 144 = .ok (.lload 5, 2) := by decide +kernel
theorem dX5_curveAt_146 : decode cX5_curveAt 146 = .ok (.invokestatic 62, 3) := by decide +kernel
theorem dX5_curveAt_149 : decode cX5_curveAt 149 = .ok (.invokestatic 45, 3) := by decide +kernel
theorem dX5_curveAt_152 : decode cX5_curveAt 152 = .ok (.lreturn, 1) := by decide +kernel
def fn_X5_curveAt_b63 (h : mz_H) (a0 : (Option Nat)) (j5 : Int64) (x7 : Int32) (s0 : Int32) : mz_Res Int64 :=
  mz_op (mz_fR h a0 4 0) fun v1 =>
  mz_op (mz_aJ h v1 x7) fun v2 =>
  mz_op (mz_fR h a0 4 0) fun v3 =>
  mz_op (mz_aJ h v3 s0) fun v4 =>
  mz_call (fn_X3_isZero h j5) fun v5 h =>
  if v5 = 0 then
    mz_call (fn_X3_isFinite h v2) fun v6 h =>
    if v6 = 0 then
      mz_ret 9221120237041090560 h
    else
      mz_call (fn_X3_isFinite h v4) fun v7 h =>
      if v7 = 0 then
        mz_ret 9221120237041090560 h
      else
        mz_call (fn_X3_negated h v2) fun v8 h =>
        mz_call (fn_X3_sum h v4 v8) fun v9 h =>
        mz_call (fn_X3_product h v9 j5) fun v10 h =>
        mz_call (fn_X3_sum h v2 v10) fun v11 h =>
        mz_ret v11 h
  else
    mz_call (fn_X3_isFinite h v2) fun v12 h =>
    if v12 = 0 then
      mz_ret 9221120237041090560 h
    else
      mz_ret v2 h
set_option maxHeartbeats 4000000 in
set_option maxRecDepth 100000 in
theorem pf_X5_curveAt_b63 (r : Int64) (Y : mz_Y p g RX5 cX5_curveAt 15 (some .long) "curveAt" (mz_AF h0) s m args meth c) (h : mz_H) (a0 : (Option Nat)) (j5 : Int64) (x7 : Int32) (s0 : Int32) (dc ds : Nat) (hr : fn_X5_curveAt_b63 h a0 j5 x7 s0 = some (r, hf, dc, ds)) : mz_Go l g p e s m args below meth c 4 122 DC DS h0 (some (Value.long r)) hf 15 63 [(0, false, va_rf a0), (5, true, .long j5), (7, false, .int x7)] [.int s0] h dc ds := by
  unfold fn_X5_curveAt_b63 at hr
  intro H locs cells slots ls hH hS hl hc hs
  have X := Y.1
  refine mz_istore X [(8, false, .int s0), (0, false, va_rf a0), (5, true, .long j5), (7, false, .int x7)] dX5_curveAt_63 hl (by decide) rfl (fun ls hl => ?_)
  refine mz_aload_n X dX5_curveAt_65 rfl (mz_at hl 1 rfl) ?_
  refine mz_getR X hH fl_RX5_15 dX5_curveAt_66 hr (fun v1 hr => ?_)
  refine lv_iload X.1 X.2.1 dX5_curveAt_69 (mz_at hl 3 rfl) ?_
  refine mz_lald X hH dX5_curveAt_71 hr (fun v2 hr => ?_)
  refine mz_lstore X [(9, true, .long v2), (8, false, .int s0), (0, false, va_rf a0), (5, true, .long j5), (7, false, .int x7)] dX5_curveAt_72 hl (by decide) rfl (fun ls hl => ?_)
  refine mz_aload_n X dX5_curveAt_74 rfl (mz_at hl 2 rfl) ?_
  refine mz_getR X hH fl_RX5_15 dX5_curveAt_75 hr (fun v3 hr => ?_)
  refine lv_iload X.1 X.2.1 dX5_curveAt_78 (mz_at hl 1 rfl) ?_
  refine mz_lald X hH dX5_curveAt_80 hr (fun v4 hr => ?_)
  refine mz_lstore X [(11, true, .long v4), (9, true, .long v2), (8, false, .int s0), (0, false, va_rf a0), (5, true, .long j5), (7, false, .int x7)] dX5_curveAt_81 hl (by decide) rfl (fun ls hl => ?_)
  refine lv_lload X.1 X.2.1 dX5_curveAt_83 (mz_at hl 4 rfl) ?_
  refine mz_kS Value.int X hH hS hl.1.1 [.long j5] [] hr (ct_X3_isZero l g h j5) mb_RX5_55 im_X3_isZero rfl (Nat.le_of_ble_eq_true rfl) ⟨Nat.le_of_ble_eq_true rfl, Nat.le_of_ble_eq_true rfl⟩ hc hs dX5_curveAt_85 rfl (fun v5 h H locs cells slots dc ds hr hH hS hc hs => ?_)
  refine mz_if_eq X 108 dX5_curveAt_88 (by decide) hr (fun hr => ?_) (fun hr => ?_)
  · refine lv_lload X.1 X.2.1 dX5_curveAt_108 (mz_at hl 1 rfl) ?_
    refine mz_kS Value.int X hH hS hl.1.1 [.long v2] [] hr (ct_X3_isFinite l g h v2) mb_RX5_59 im_X3_isFinite rfl (Nat.le_of_ble_eq_true rfl) ⟨Nat.le_of_ble_eq_true rfl, Nat.le_of_ble_eq_true rfl⟩ hc hs dX5_curveAt_110 rfl (fun v6 h H locs cells slots dc ds hr hH hS hc hs => ?_)
    refine mz_if_eq X 124 dX5_curveAt_113 (by decide) hr (fun hr => ?_) (fun hr => ?_)
    · refine mz_ldc2 (v := 9221120237041090560) X (mz_tb 877 (by decide +kernel) rfl) dX5_curveAt_124 ?_
      exact mz_lret Y dX5_curveAt_127 hH hS hc hs hr
    · refine lv_lload X.1 X.2.1 dX5_curveAt_116 (mz_at hl 0 rfl) ?_
      refine mz_kS Value.int X hH hS hl.1.1 [.long v4] [] hr (ct_X3_isFinite l g h v4) mb_RX5_59 im_X3_isFinite rfl (Nat.le_of_ble_eq_true rfl) ⟨Nat.le_of_ble_eq_true rfl, Nat.le_of_ble_eq_true rfl⟩ hc hs dX5_curveAt_118 rfl (fun v7 h H locs cells slots dc ds hr hH hS hc hs => ?_)
      refine mz_if_ne X 128 dX5_curveAt_121 (by decide) hr (fun hr => ?_) (fun hr => ?_)
      · refine lv_lload X.1 X.2.1 dX5_curveAt_128 (mz_at hl 0 rfl) ?_
        refine lv_lload X.1 X.2.1 dX5_curveAt_130 (mz_at hl 1 rfl) ?_
        refine mz_kS Value.long X hH hS hl.1.1 [.long v2] [.long v4] hr (ct_X3_negated l g h v2) mb_RX5_42 im_X3_negated rfl (Nat.le_of_ble_eq_true rfl) ⟨Nat.le_of_ble_eq_true rfl, Nat.le_of_ble_eq_true rfl⟩ hc hs dX5_curveAt_132 rfl (fun v8 h H locs cells slots dc ds hr hH hS hc hs => ?_)
        refine mz_kS Value.long X hH hS hl.1.1 [.long v4, .long v8] [] hr (ct_X3_sum l g h v4 v8) mb_RX5_45 im_X3_sum rfl (Nat.le_of_ble_eq_true rfl) ⟨Nat.le_of_ble_eq_true rfl, Nat.le_of_ble_eq_true rfl⟩ hc hs dX5_curveAt_135 rfl (fun v9 h H locs cells slots dc ds hr hH hS hc hs => ?_)
        refine mz_lstore X [(13, true, .long v9), (11, true, .long v4), (9, true, .long v2), (8, false, .int s0), (0, false, va_rf a0), (5, true, .long j5), (7, false, .int x7)] dX5_curveAt_138 hl (by decide) rfl (fun ls hl => ?_)
        refine lv_lload X.1 X.2.1 dX5_curveAt_140 (mz_at hl 2 rfl) ?_
        refine lv_lload X.1 X.2.1 dX5_curveAt_142 (mz_at hl 0 rfl) ?_
        refine lv_lload X.1 X.2.1 dX5_curveAt_144 (mz_at hl 5 rfl) ?_
        refine mz_kS Value.long X hH hS hl.1.1 [.long v9, .long j5] [.long v2] hr (ct_X3_product l g h v9 j5) mb_RX5_62 im_X3_product rfl (Nat.le_of_ble_eq_true rfl) ⟨Nat.le_of_ble_eq_true rfl, Nat.le_of_ble_eq_true rfl⟩ hc hs dX5_curveAt_146 rfl (fun v10 h H locs cells slots dc ds hr hH hS hc hs => ?_)
        refine mz_kS Value.long X hH hS hl.1.1 [.long v2, .long v10] [] hr (ct_X3_sum l g h v2 v10) mb_RX5_45 im_X3_sum rfl (Nat.le_of_ble_eq_true rfl) ⟨Nat.le_of_ble_eq_true rfl, Nat.le_of_ble_eq_true rfl⟩ hc hs dX5_curveAt_149 rfl (fun v11 h H locs cells slots dc ds hr hH hS hc hs => ?_)
        exact mz_lret Y dX5_curveAt_152 hH hS hc hs hr
      · refine mz_ldc2 (v := 9221120237041090560) X (mz_tb 877 (by decide +kernel) rfl) dX5_curveAt_124 ?_
        exact mz_lret Y dX5_curveAt_127 hH hS hc hs hr
  · refine lv_lload X.1 X.2.1 dX5_curveAt_91 (mz_at hl 1 rfl) ?_
    refine mz_kS Value.int X hH hS hl.1.1 [.long v2] [] hr (ct_X3_isFinite l g h v2) mb_RX5_59 im_X3_isFinite rfl (Nat.le_of_ble_eq_true rfl) ⟨Nat.le_of_ble_eq_true rfl, Nat.le_of_ble_eq_true rfl⟩ hc hs dX5_curveAt_93 rfl (fun v12 h H locs cells slots dc ds hr hH hS hc hs => ?_)
    refine mz_if_eq X 104 dX5_curveAt_96 (by decide) hr (fun hr => ?_) (fun hr => ?_)
    · refine mz_ldc2 (v := 9221120237041090560) X (mz_tb 877 (by decide +kernel) rfl) dX5_curveAt_104 ?_
      exact mz_lret Y dX5_curveAt_107 hH hS hc hs hr
    · refine lv_lload X.1 X.2.1 dX5_curveAt_99 (mz_at hl 1 rfl) ?_
      refine lv_goto (tgt := 107) X.1 X.2.1 dX5_curveAt_101 (by decide) ?_
      exact mz_lret Y dX5_curveAt_107 hH hS hc hs hr
def fn_X5_curveAt (h : mz_H) (a0 : (Option Nat)) (j1 : Int64) : mz_Res Int64 :=
  mz_op (mz_fR h a0 4 0) fun v1 =>
  mz_op (mz_len h v1 1) fun v2 =>
  if v2 = 0 then
    mz_ret 9221120237041090560 h
  else
    mz_call (fn_X3_floorOf h j1) fun v3 h =>
    mz_call (fn_X3_negated h v3) fun v4 h =>
    mz_call (fn_X3_sum h j1 v4) fun v5 h =>
    mz_call (fn_X3_wholeOf h v3) fun v6 h =>
    mz_op (mz_fR h a0 4 0) fun v7 =>
    mz_op (mz_len h v7 1) fun v8 =>
    mz_call (fn_J_floorMod h v6 ((v8 : Int32).toInt64)) fun v9 h =>
    mz_op (some ((v9 : Int64).toInt32)) fun v10 =>
    mz_op (mz_fR h a0 4 0) fun v11 =>
    mz_op (mz_len h v11 1) fun v12 =>
    if v12 ≤ (v10 + 1) then
      fn_X5_curveAt_b63 h a0 v5 v10 0
    else
      fn_X5_curveAt_b63 h a0 v5 v10 (v10 + 1)
set_option maxHeartbeats 4000000 in
set_option maxRecDepth 100000 in
theorem pf_X5_curveAt_b0 (r : Int64) (Y : mz_Y p g RX5 cX5_curveAt 15 (some .long) "curveAt" (mz_AF h0) s m args meth c) (h : mz_H) (a0 : (Option Nat)) (j1 : Int64) (dc ds : Nat) (hr : fn_X5_curveAt h a0 j1 = some (r, hf, dc, ds)) : mz_Go l g p e s m args below meth c 4 122 DC DS h0 (some (Value.long r)) hf 15 0 [(0, false, va_rf a0), (1, true, .long j1)] [] h dc ds := by
  unfold fn_X5_curveAt at hr
  intro H locs cells slots ls hH hS hl hc hs
  have X := Y.1
  refine mz_aload_n X dX5_curveAt_0 rfl (mz_at hl 0 rfl) ?_
  refine mz_getR X hH fl_RX5_15 dX5_curveAt_1 hr (fun v1 hr => ?_)
  refine mz_alen (t := 1) X hH (by decide) dX5_curveAt_4 hr (fun v2 hr => ?_)
  refine mz_if_ne X 12 dX5_curveAt_5 (by decide) hr (fun hr => ?_) (fun hr => ?_)
  · refine lv_lload_n X.1 X.2.1 dX5_curveAt_12 rfl (mz_at hl 1 rfl) ?_
    refine mz_kS Value.long X hH hS hl.1.1 [.long j1] [] hr (ct_X3_floorOf l g h j1) mb_RX5_38 im_X3_floorOf rfl (Nat.le_of_ble_eq_true rfl) ⟨Nat.le_of_ble_eq_true rfl, Nat.le_of_ble_eq_true rfl⟩ hc hs dX5_curveAt_13 rfl (fun v3 h H locs cells slots dc ds hr hH hS hc hs => ?_)
    refine mz_lstore_n X [(3, true, .long v3), (0, false, va_rf a0), (1, true, .long j1)] dX5_curveAt_16 rfl hl (by decide) rfl (fun ls hl => ?_)
    refine lv_lload_n X.1 X.2.1 dX5_curveAt_17 rfl (mz_at hl 2 rfl) ?_
    refine lv_lload_n X.1 X.2.1 dX5_curveAt_18 rfl (mz_at hl 0 rfl) ?_
    refine mz_kS Value.long X hH hS hl.1.1 [.long v3] [.long j1] hr (ct_X3_negated l g h v3) mb_RX5_42 im_X3_negated rfl (Nat.le_of_ble_eq_true rfl) ⟨Nat.le_of_ble_eq_true rfl, Nat.le_of_ble_eq_true rfl⟩ hc hs dX5_curveAt_19 rfl (fun v4 h H locs cells slots dc ds hr hH hS hc hs => ?_)
    refine mz_kS Value.long X hH hS hl.1.1 [.long j1, .long v4] [] hr (ct_X3_sum l g h j1 v4) mb_RX5_45 im_X3_sum rfl (Nat.le_of_ble_eq_true rfl) ⟨Nat.le_of_ble_eq_true rfl, Nat.le_of_ble_eq_true rfl⟩ hc hs dX5_curveAt_22 rfl (fun v5 h H locs cells slots dc ds hr hH hS hc hs => ?_)
    refine mz_lstore X [(5, true, .long v5), (3, true, .long v3), (0, false, va_rf a0), (1, true, .long j1)] dX5_curveAt_25 hl (by decide) rfl (fun ls hl => ?_)
    refine lv_lload_n X.1 X.2.1 dX5_curveAt_27 rfl (mz_at hl 1 rfl) ?_
    refine mz_kS Value.long X hH hS hl.1.1 [.long v3] [] hr (ct_X3_wholeOf l g h v3) mb_RX5_49 im_X3_wholeOf rfl (Nat.le_of_ble_eq_true rfl) ⟨Nat.le_of_ble_eq_true rfl, Nat.le_of_ble_eq_true rfl⟩ hc hs dX5_curveAt_28 rfl (fun v6 h H locs cells slots dc ds hr hH hS hc hs => ?_)
    refine mz_aload_n X dX5_curveAt_31 rfl (mz_at hl 2 rfl) ?_
    refine mz_getR X hH fl_RX5_15 dX5_curveAt_32 hr (fun v7 hr => ?_)
    refine mz_alen (t := 1) X hH (by decide) dX5_curveAt_35 hr (fun v8 hr => ?_)
    refine lv_i2l (v := ((v8 : Int32).toInt64)) X.1 X.2.1 dX5_curveAt_36 rfl ?_
    refine mz_kS Value.long X hH hS hl.1.1 [.long v6, .long ((v8 : Int32).toInt64)] [] hr (ct_J_floorMod l g h v6 ((v8 : Int32).toInt64)) mb_RX5_52 im_J_floorMod rfl (Nat.le_of_ble_eq_true rfl) ⟨Nat.le_of_ble_eq_true rfl, Nat.le_of_ble_eq_true rfl⟩ hc hs dX5_curveAt_37 rfl (fun v9 h H locs cells slots dc ds hr hH hS hc hs => ?_)
    refine lv_l2i (v := ((v9 : Int64).toInt32)) X.1 X.2.1 dX5_curveAt_40 rfl ?_
    refine mz_topi hr (fun v10 hv10 hr => ?_)
    refine mz_istore X [(7, false, .int v10), (5, true, .long v5), (3, true, .long v3), (0, false, va_rf a0), (1, true, .long j1)] dX5_curveAt_41 hl (by decide) rfl (fun ls hl => ?_)
    refine lv_iload X.1 X.2.1 dX5_curveAt_43 (mz_at hl 0 rfl) ?_
    refine lv_iconst (v := 1) X.1 X.2.1 dX5_curveAt_45 (by decide) ?_
    refine lv_iadd X.1 X.2.1 dX5_curveAt_46 ?_
    refine mz_aload_n X dX5_curveAt_47 rfl (mz_at hl 3 rfl) ?_
    refine mz_getR X hH fl_RX5_15 dX5_curveAt_48 hr (fun v11 hr => ?_)
    refine mz_alen (t := 1) X hH (by decide) dX5_curveAt_51 hr (fun v12 hr => ?_)
    refine mz_icmp_ge X 62 dX5_curveAt_52 (by decide) hr (fun hr => ?_) (fun hr => ?_)
    · refine lv_iconst (v := 0) X.1 X.2.1 dX5_curveAt_62 (by decide) ?_
      exact pf_X5_curveAt_b63 r Y h a0 v5 v10 0 _ _ hr H locs cells slots ls hH hS (mz_sub hl [3, 1, 0] rfl) hc hs
    · refine lv_iload X.1 X.2.1 dX5_curveAt_55 (mz_at hl 0 rfl) ?_
      refine lv_iconst (v := 1) X.1 X.2.1 dX5_curveAt_57 (by decide) ?_
      refine lv_iadd X.1 X.2.1 dX5_curveAt_58 ?_
      refine lv_goto (tgt := 63) X.1 X.2.1 dX5_curveAt_59 (by decide) ?_
      exact pf_X5_curveAt_b63 r Y h a0 v5 v10 (v10 + 1) _ _ hr H locs cells slots ls hH hS (mz_sub hl [3, 1, 0] rfl) hc hs
  · refine mz_ldc2 (v := 9221120237041090560) X (mz_tb 877 (by decide +kernel) rfl) dX5_curveAt_8 ?_
    exact mz_lret Y dX5_curveAt_11 hH hS hc hs hr
set_option maxRecDepth 100000 in
theorem ct_X5_curveAt (l : Launch) (g : mz_G) (h : mz_H) (a0 : (Option Nat)) (j1 : Int64) (r : Int64) (hf : mz_H) (k n : Nat) (hr : fn_X5_curveAt h a0 j1 = some (r, hf, k, n)) : mz_C l g yX5_curveAt cX5_curveAt 15 (some .long) 4 122 [va_rf a0, .long j1] h (some (Value.long r)) hf k n := by
  refine mz_met (as := [(false, va_rf a0), (true, .long j1)]) (plainFor_of_name (by decide)) (mz_c1 (mz_cat_rf _) (mz_c1 rfl mz_c0)) (Nat.le_of_ble_eq_true rfl) ?_
  intro p e s m args below meth c Y
  exact pf_X5_curveAt_b0 r Y h a0 j1 _ _ hr
theorem dX6_init_0 : decode cX6_init 0 = .ok (.aload_n 0, 1) := by decide +kernel
theorem dX6_init_1 : decode cX6_init 1 = .ok (.invokespecial 3, 3) := by decide +kernel
theorem dX6_init_4 : decode cX6_init 4 = .ok (.aload_n 0, 1) := by decide +kernel
theorem dX6_init_5 : decode cX6_init 5 = .ok (.aload_n 1, 1) := by decide +kernel
theorem dX6_init_6 : decode cX6_init 6 = .ok (.getfield 9, 3) := by decide +kernel
theorem dX6_init_9 : decode cX6_init 9 = .ok (.putfield 15, 3) := by decide +kernel
theorem dX6_init_12 : decode cX6_init 12 = .ok (.aload_n 0, 1) := by decide +kernel
theorem dX6_init_13 : decode cX6_init 13 = .ok (.aload_n 1, 1) := by decide +kernel
theorem dX6_init_14 : decode cX6_init 14 = .ok (.getfield 18, 3) := by decide +kernel
theorem dX6_init_17 : decode cX6_init 17 = .ok (.putfield 21, 3) := by decide +kernel
theorem dX6_init_20 : decode cX6_init 20 = .ok (.aload_n 0, 1) := by decide +kernel
theorem dX6_init_21 : decode cX6_init 21 = .ok (.aload_n 1, 1) := by decide +kernel
theorem dX6_init_22 : decode cX6_init 22 = .ok (.getfield 22, 3) := by decide +kernel
theorem dX6_init_25 : decode cX6_init 25 = .ok (.putfield 25, 3) := by decide +kernel
theorem dX6_init_28 : decode cX6_init 28 = .ok (.aload_n 0, 1) := by decide +kernel
theorem dX6_init_29 : decode cX6_init 29 = .ok (.aload_n 1, 1) := by decide +kernel
theorem dX6_init_30 : decode cX6_init 30 = .ok (.getfield 26, 3) := by decide +kernel
theorem dX6_init_33 : decode cX6_init 33 = .ok (.putfield 29, 3) := by decide +kernel
theorem dX6_init_36 : decode cX6_init 36 = .ok (.aload_n 0, 1) := by decide +kernel
theorem dX6_init_37 : decode cX6_init 37 = .ok (.getfield 25, 3) := by decide +kernel
theorem dX6_init_40 : decode cX6_init 40 = .ok (.ifCond .ne 19, 3) := by decide +kernel
theorem dX6_init_43 : decode cX6_init 43 = .ok (.aload_n 0, 1) := by decide +kernel
theorem dX6_init_44 : decode cX6_init 44 = .ok (.new 30, 3) := by decide +kernel
theorem dX6_init_47 : decode cX6_init 47 = .ok (.dup, 1) := by decide +kernel
theorem dX6_init_48 : decode cX6_init 48 = .ok (.iconst 1, 1) := by decide +kernel
theorem dX6_init_49 : decode cX6_init 49 = .ok (.aload_n 0, 1) := by decide +kernel
theorem dX6_init_50 : decode cX6_init 50 = .ok (.getfield 21, 3) := by decide +kernel
theorem dX6_init_53 : decode cX6_init 53 = .ok (.invokespecial 32, 3) := by decide +kernel
theorem dX6_init_56 : decode cX6_init 56 = .ok (.putfield 35, 3) := by decide +kernel
theorem dX6_init_59 : decode cX6_init 59 = .ok (.return_, 1) := by decide +kernel
def fn_X6_init (h : mz_H) (a0 : (Option Nat)) (a1 : (Option Nat)) : mz_Res Unit :=
  mz_chk (a0).isSome <|
  mz_op (mz_fI h a1 1 0) fun v1 =>
  mz_op (mz_pF h a0 5 0 (Value.int v1)) fun h =>
  mz_op (mz_fI h a1 1 3) fun v2 =>
  mz_op (mz_pF h a0 5 1 (Value.int v2)) fun h =>
  mz_op (mz_fI h a1 1 4) fun v3 =>
  mz_op (mz_pF h a0 5 2 (Value.int v3)) fun h =>
  mz_op (mz_fI h a1 1 5) fun v4 =>
  mz_op (mz_pF h a0 5 3 (Value.int v4)) fun h =>
  mz_op (mz_fI h a0 5 2) fun v5 =>
  if v5 = 0 then
    mz_oN h 4 1 [.null] fun v6 h =>
    mz_op (mz_fI h a0 5 1) fun v7 =>
    mz_chk (mz_is h v6 4) <| mz_call (fn_X5_init h v6 1 v7) fun _ h =>
    mz_op (mz_pF h a0 5 4 (va_rf v6)) fun h =>
    mz_ret () h
  else
    mz_ret () h
set_option maxHeartbeats 4000000 in
set_option maxRecDepth 100000 in
theorem pf_X6_init_b0 (r : Unit) (Y : mz_Y p g RX6 cX6_init 2 none "<init>" (mz_AF h0) s m args meth c) (h : mz_H) (a0 : (Option Nat)) (a1 : (Option Nat)) (dc ds : Nat) (hr : fn_X6_init h a0 a1 = some (r, hf, dc, ds)) : mz_Go l g p e s m args below meth c 2 46 DC DS h0 none hf 2 0 [(0, false, va_rf a0), (1, false, va_rf a1)] [] h dc ds := by
  unfold fn_X6_init at hr
  intro H locs cells slots ls hH hS hl hc hs
  have X := Y.1
  refine mz_aload_n X dX6_init_0 rfl (mz_at hl 0 rfl) ?_
  refine mz_oinit X hl.1.1 oi_RX6_3 (Nat.le_of_ble_eq_true rfl) ⟨Nat.le_of_ble_eq_true rfl, Nat.le_of_ble_eq_true rfl⟩ dX6_init_1 hr (fun hr => ?_)
  refine mz_aload_n X dX6_init_4 rfl (mz_at hl 0 rfl) ?_
  refine mz_aload_n X dX6_init_5 rfl (mz_at hl 1 rfl) ?_
  refine mz_getI X hH fl_RX6_9 dX6_init_6 hr (fun v1 hr => ?_)
  refine mz_putF X Y.2.2.2 hH hS fp_RX6_15 dX6_init_9 rfl rfl hr (fun h H locs hr hH hS => ?_)
  refine mz_aload_n X dX6_init_12 rfl (mz_at hl 0 rfl) ?_
  refine mz_aload_n X dX6_init_13 rfl (mz_at hl 1 rfl) ?_
  refine mz_getI X hH fl_RX6_18 dX6_init_14 hr (fun v2 hr => ?_)
  refine mz_putF X Y.2.2.2 hH hS fp_RX6_21 dX6_init_17 rfl rfl hr (fun h H locs hr hH hS => ?_)
  refine mz_aload_n X dX6_init_20 rfl (mz_at hl 0 rfl) ?_
  refine mz_aload_n X dX6_init_21 rfl (mz_at hl 1 rfl) ?_
  refine mz_getI X hH fl_RX6_22 dX6_init_22 hr (fun v3 hr => ?_)
  refine mz_putF X Y.2.2.2 hH hS fp_RX6_25 dX6_init_25 rfl rfl hr (fun h H locs hr hH hS => ?_)
  refine mz_aload_n X dX6_init_28 rfl (mz_at hl 0 rfl) ?_
  refine mz_aload_n X dX6_init_29 rfl (mz_at hl 1 rfl) ?_
  refine mz_getI X hH fl_RX6_26 dX6_init_30 hr (fun v4 hr => ?_)
  refine mz_putF X Y.2.2.2 hH hS fp_RX6_29 dX6_init_33 rfl rfl hr (fun h H locs hr hH hS => ?_)
  refine mz_aload_n X dX6_init_36 rfl (mz_at hl 0 rfl) ?_
  refine mz_getI X hH fl_RX6_25 dX6_init_37 hr (fun v5 hr => ?_)
  refine mz_if_ne X 59 dX6_init_40 (by decide) hr (fun hr => ?_) (fun hr => ?_)
  · exact mz_vret Y dX6_init_59 hH hS hc hs hr
  · refine mz_aload_n X dX6_init_43 rfl (mz_at hl 0 rfl) ?_
    refine mz_kN X hH hS tyX5 rfl cl_4 tyX5_ok ⟨mz_tb 511 (by decide +kernel) rfl, mz_tb 512 (by decide +kernel) rfl, mz_tb 50 (by decide +kernel) rfl⟩ nw_4 dX6_init_44 hr hc hs (fun v6 h H cells slots dc ds hr hH hS hc hs => ?_)
    refine mz_dupR X dX6_init_47 ?_
    refine lv_iconst (v := 1) X.1 X.2.1 dX6_init_48 (by decide) ?_
    refine mz_aload_n X dX6_init_49 rfl (mz_at hl 0 rfl) ?_
    refine mz_getI X hH fl_RX6_21 dX6_init_50 hr (fun v7 hr => ?_)
    refine mz_kI X hH hS hl.1.1 [.int 1, .int v7] [va_rf v6, va_rf a0] hr (ct_X5_init l g h v6 1 v7) mb_RX6_32 im_X5_init rfl rfl (Nat.le_of_ble_eq_true rfl) ⟨Nat.le_of_ble_eq_true rfl, Nat.le_of_ble_eq_true rfl⟩ hc hs dX6_init_53 rfl (fun _ h H locs cells slots dc ds hr hH hS hc hs => ?_)
    refine mz_put X hH hS fp_RX6_35 dX6_init_56 (mz_nrf _ _).1 (mz_nrf _ _).2 hr (fun h H locs hr hH hS => ?_)
    exact mz_vret Y dX6_init_59 hH hS hc hs hr
set_option maxRecDepth 100000 in
theorem ct_X6_init (l : Launch) (g : mz_G) (h : mz_H) (a0 : (Option Nat)) (a1 : (Option Nat)) (r : Unit) (hf : mz_H) (k n : Nat) (hr : fn_X6_init h a0 a1 = some (r, hf, k, n)) : mz_C l g yX6_init cX6_init 2 none 2 46 [va_rf a0, va_rf a1] h none hf k n := by
  refine mz_met (as := [(false, va_rf a0), (false, va_rf a1)]) (plainFor_of_name (by decide)) (mz_c1 (mz_cat_rf _) (mz_c1 (mz_cat_rf _) mz_c0)) (Nat.le_of_ble_eq_true rfl) ?_
  intro p e s m args below meth c Y
  exact pf_X6_init_b0 r Y h a0 a1 _ _ hr
theorem dX6_init__0 : decode cX6_init_ 0 = .ok (.aload_n 0, 1) := by decide +kernel
theorem dX6_init__1 : decode cX6_init_ 1 = .ok (.invokespecial 3, 3) := by decide +kernel
theorem dX6_init__4 : decode cX6_init_ 4 = .ok (.aload_n 0, 1) := by decide +kernel
theorem dX6_init__5 : decode cX6_init_ 5 = .ok (.aload_n 1, 1) := by decide +kernel
theorem dX6_init__6 : decode cX6_init_ 6 = .ok (.getfield 15, 3) := by decide +kernel
theorem dX6_init__9 : decode cX6_init_ 9 = .ok (.putfield 15, 3) := by decide +kernel
theorem dX6_init__12 : decode cX6_init_ 12 = .ok (.aload_n 0, 1) := by decide +kernel
theorem dX6_init__13 : decode cX6_init_ 13 = .ok (.aload_n 1, 1) := by decide +kernel
theorem dX6_init__14 : decode cX6_init_ 14 = .ok (.getfield 21, 3) := by decide +kernel
theorem dX6_init__17 : decode cX6_init_ 17 = .ok (.putfield 21, 3) := by decide +kernel
theorem dX6_init__20 : decode cX6_init_ 20 = .ok (.aload_n 0, 1) := by decide +kernel
theorem dX6_init__21 : decode cX6_init_ 21 = .ok (.aload_n 1, 1) := by decide +kernel
theorem dX6_init__22 : decode cX6_init_ 22 = .ok (.getfield 25, 3) := by decide +kernel
theorem dX6_init__25 : decode cX6_init_ 25 = .ok (.putfield 25, 3) := by decide +kernel
theorem dX6_init__28 : decode cX6_init_ 28 = .ok (.aload_n 0, 1) := by decide +kernel
theorem dX6_init__29 : decode cX6_init_ 29 = .ok (.aload_n 1, 1) := by decide +kernel
theorem dX6_init__30 : decode cX6_init_ 30 = .ok (.getfield 29, 3) := by decide +kernel
theorem dX6_init__33 : decode cX6_init_ 33 = .ok (.putfield 29, 3) := by decide +kernel
theorem dX6_init__36 : decode cX6_init_ 36 = .ok (.aload_n 1, 1) := by decide +kernel
theorem dX6_init__37 : decode cX6_init_ 37 = .ok (.getfield 35, 3) := by decide +kernel
theorem dX6_init__40 : decode cX6_init_ 40 = .ok (.ifnull 18, 3) := by decide +kernel
theorem dX6_init__43 : decode cX6_init_ 43 = .ok (.aload_n 0, 1) := by decide +kernel
theorem dX6_init__44 : decode cX6_init_ 44 = .ok (.new 30, 3) := by decide +kernel
theorem dX6_init__47 : decode cX6_init_ 47 = .ok (.dup, 1) := by decide +kernel
theorem dX6_init__48 : decode cX6_init_ 48 = .ok (.aload_n 1, 1) := by decide +kernel
theorem dX6_init__49 : decode cX6_init_ 49 = .ok (.getfield 35, 3) := by decide +kernel
theorem dX6_init__52 : decode cX6_init_ 52 = .ok (.invokespecial 39, 3) := by decide +kernel
theorem dX6_init__55 : decode cX6_init_ 55 = .ok (.putfield 35, 3) := by decide +kernel
theorem dX6_init__58 : decode cX6_init_ 58 = .ok (.aload_n 1, 1) := by decide +kernel
theorem dX6_init__59 : decode cX6_init_ 59 = .ok (.getfield 42, 3) := by decide +kernel
theorem dX6_init__62 : decode cX6_init_ 62 = .ok (.ifnull 60, 3) := by decide +kernel
theorem dX6_init__65 : decode cX6_init_ 65 = .ok (.aload_n 0, 1) := by decide +kernel
theorem dX6_init__66 : decode cX6_init_ 66 = .ok (.aload_n 1, 1) := by decide +kernel
theorem dX6_init__67 : decode cX6_init_ 67 = .ok (.getfield 42, 3) := by decide +kernel
theorem dX6_init__70 : decode cX6_init_ 70 = .ok (.arraylength, 1) := by decide +kernel
theorem dX6_init__71 : decode cX6_init_ 71 = .ok (.anewarray 30, 3) := by decide +kernel
theorem dX6_init__74 : decode cX6_init_ 74 = .ok (.putfield 42, 3) := by decide +kernel
theorem dX6_init__77 : decode cX6_init_ 77 = .ok (.iconst 0, 1) := by decide +kernel
theorem dX6_init__78 : decode cX6_init_ 78 = .ok (.istore_n 2, 1) := by decide +kernel
theorem dX6_init__79 : decode cX6_init_ 79 = .ok (.iload_n 2, 1) := by decide +kernel
theorem dX6_init__80 : decode cX6_init_ 80 = .ok (.aload_n 0, 1) := by decide +kernel
theorem dX6_init__81 : decode cX6_init_ 81 = .ok (.getfield 42, 3) := by decide +kernel
theorem dX6_init__84 : decode cX6_init_ 84 = .ok (.arraylength, 1) := by decide +kernel
theorem dX6_init__85 : decode cX6_init_ 85 = .ok (.if_icmp .ge 37, 3) := by decide +kernel
theorem dX6_init__88 : decode cX6_init_ 88 = .ok (.aload_n 1, 1) := by decide +kernel
theorem dX6_init__89 : decode cX6_init_ 89 = .ok (.getfield 42, 3) := by decide +kernel
theorem dX6_init__92 : decode cX6_init_ 92 = .ok (.iload_n 2, 1) := by decide +kernel
theorem dX6_init__93 : decode cX6_init_ 93 = .ok (.aaload, 1) := by decide +kernel
theorem dX6_init__94 : decode cX6_init_ 94 = .ok (.ifnull 22, 3) := by decide +kernel
theorem dX6_init__97 : decode cX6_init_ 97 = .ok (.aload_n 0, 1) := by decide +kernel
theorem dX6_init__98 : decode cX6_init_ 98 = .ok (.getfield 42, 3) := by decide +kernel
theorem dX6_init__101 : decode cX6_init_ 101 = .ok (.iload_n 2, 1) := by decide +kernel
theorem dX6_init__102 : decode cX6_init_ 102 = .ok (.new 30, 3) := by decide +kernel
theorem dX6_init__105 : decode cX6_init_ 105 = .ok (.dup, 1) := by decide +kernel
theorem dX6_init__106 : decode cX6_init_ 106 = .ok (.aload_n 1, 1) := by decide +kernel
theorem dX6_init__107 : decode cX6_init_ 107 = .ok (.getfield 42, 3) := by decide +kernel
theorem dX6_init__110 : decode cX6_init_ 110 = .ok (.iload_n 2, 1) := by decide +kernel
theorem dX6_init__111 : decode cX6_init_ 111 = .ok (.aaload, 1) := by decide +kernel
theorem dX6_init__112 : decode cX6_init_ 112 = .ok (.invokespecial 39, 3) := by decide +kernel
theorem dX6_init__115 : decode cX6_init_ 115 = .ok (.aastore, 1) := by decide +kernel
theorem dX6_init__116 : decode cX6_init_ 116 = .ok (.iinc 2 1, 3) := by decide +kernel
theorem dX6_init__119 : decode cX6_init_ 119 = .ok (.goto (-40), 3) := by decide +kernel
theorem dX6_init__122 : decode cX6_init_ 122 = .ok (.return_, 1) := by decide +kernel
def fn_X6_init__b116 (rc79 : mz_H → (Option Nat) → (Option Nat) → Int32 → mz_Res Unit) (h : mz_H) (a0 : (Option Nat)) (a1 : (Option Nat)) (x2 : Int32) : mz_Res Unit :=
  mz_op (some (x2 + 1)) fun v1 =>
  rc79 h a0 a1 v1
set_option maxHeartbeats 4000000 in
set_option maxRecDepth 100000 in
theorem pf_X6_init__b116 (r : Unit) (Y : mz_Y p g RX6 cX6_init_ 3 none "<init>" (mz_AF h0) s m args meth c) {rc79 : mz_H → (Option Nat) → (Option Nat) → Int32 → mz_Res Unit} (hrc79 : ∀ (h : mz_H) (a0 : (Option Nat)) (a1 : (Option Nat)) (x2 : Int32) (dc ds : Nat), rc79 h a0 a1 x2 = some (r, hf, dc, ds) → mz_Go l g p e s m args below meth c 2 43 DC DS h0 none hf 3 79 [(0, false, va_rf a0), (1, false, va_rf a1), (2, false, .int x2)] [] h dc ds) (h : mz_H) (a0 : (Option Nat)) (a1 : (Option Nat)) (x2 : Int32) (dc ds : Nat) (hr : fn_X6_init__b116 rc79 h a0 a1 x2 = some (r, hf, dc, ds)) : mz_Go l g p e s m args below meth c 2 43 DC DS h0 none hf 3 116 [(0, false, va_rf a0), (1, false, va_rf a1), (2, false, .int x2)] [] h dc ds := by
  unfold fn_X6_init__b116 at hr
  intro H locs cells slots ls hH hS hl hc hs
  have X := Y.1
  obtain ⟨v1, hv1, hr⟩ := mz_op_some hr
  have hv1 := Option.some.inj hv1
  refine mz_iinc (k := 2) X [(2, false, .int v1), (0, false, va_rf a0), (1, false, va_rf a1)] v1 dX6_init__116 hl rfl hv1 (by decide) rfl (fun ls hl => ?_)
  refine lv_goto (tgt := 79) X.1 X.2.1 dX6_init__119 (by decide) ?_
  exact hrc79 h a0 a1 v1 _ _ hr H locs cells slots ls hH hS (mz_sub hl [1, 2, 0] rfl) hc hs
def fn_X6_init__b79 : Nat → mz_H → (Option Nat) → (Option Nat) → Int32 → mz_Res Unit
  | 0, _, _, _, _ => none
  | n + 1, h, a0, a1, x2 =>
    mz_op (mz_fR h a0 5 5) fun v1 =>
    mz_op (mz_len h v1 14) fun v2 =>
    if v2 ≤ x2 then
      mz_ret () h
    else
      mz_op (mz_fR h a1 5 5) fun v3 =>
      mz_op (mz_aR h v3 14 x2) fun v4 =>
      if v4 = none then
        fn_X6_init__b116 (fn_X6_init__b79 n) h a0 a1 x2
      else
        mz_op (mz_fR h a0 5 5) fun v5 =>
        mz_oN h 4 1 [.null] fun v6 h =>
        mz_op (mz_fR h a1 5 5) fun v7 =>
        mz_op (mz_aR h v7 14 x2) fun v8 =>
        mz_chk (mz_is h v6 4) <| mz_call (fn_X5_init_ h v6 v8) fun _ h =>
        mz_op (mz_sR h v5 14 x2 v6) fun h =>
        fn_X6_init__b116 (fn_X6_init__b79 n) h a0 a1 x2
set_option maxHeartbeats 4000000 in
set_option maxRecDepth 100000 in
theorem pf_X6_init__b79 (r : Unit) (Y : mz_Y p g RX6 cX6_init_ 3 none "<init>" (mz_AF h0) s m args meth c) : ∀ (n : Nat) (h : mz_H) (a0 : (Option Nat)) (a1 : (Option Nat)) (x2 : Int32) (dc ds : Nat), fn_X6_init__b79 n h a0 a1 x2 = some (r, hf, dc, ds) → mz_Go l g p e s m args below meth c 2 43 DC DS h0 none hf 3 79 [(0, false, va_rf a0), (1, false, va_rf a1), (2, false, .int x2)] [] h dc ds := by
  have X := Y.1
  intro n
  induction n with
  | zero => intro h a0 a1 x2 dc ds hr; simp [fn_X6_init__b79] at hr
  | succ n ih =>
    intro h a0 a1 x2 dc ds hr
    rw [fn_X6_init__b79] at hr
    intro H locs cells slots ls hH hS hl hc hs
    refine lv_iload_n X.1 X.2.1 dX6_init__79 rfl (mz_at hl 2 rfl) ?_
    refine mz_aload_n X dX6_init__80 rfl (mz_at hl 0 rfl) ?_
    refine mz_getR X hH fl_RX6_42 dX6_init__81 hr (fun v1 hr => ?_)
    refine mz_alen (t := 14) X hH (by decide) dX6_init__84 hr (fun v2 hr => ?_)
    refine mz_icmp_ge X 122 dX6_init__85 (by decide) hr (fun hr => ?_) (fun hr => ?_)
    · exact mz_vret Y dX6_init__122 hH hS hc hs hr
    · refine mz_aload_n X dX6_init__88 rfl (mz_at hl 1 rfl) ?_
      refine mz_getR X hH fl_RX6_42 dX6_init__89 hr (fun v3 hr => ?_)
      refine lv_iload_n X.1 X.2.1 dX6_init__92 rfl (mz_at hl 2 rfl) ?_
      refine mz_aald (t := 14) X hH (by decide) rfl dX6_init__93 hr (fun v4 hr => ?_)
      refine mz_ifnull X 116 dX6_init__94 (by decide) hr (fun hr => ?_) (fun hr => ?_)
      · exact pf_X6_init__b116 r Y ih h a0 a1 x2 _ _ hr H locs cells slots ls hH hS (mz_sub hl [0, 1, 2] rfl) hc hs
      · refine mz_aload_n X dX6_init__97 rfl (mz_at hl 0 rfl) ?_
        refine mz_getR X hH fl_RX6_42 dX6_init__98 hr (fun v5 hr => ?_)
        refine lv_iload_n X.1 X.2.1 dX6_init__101 rfl (mz_at hl 2 rfl) ?_
        refine mz_kN X hH hS tyX5 rfl cl_4 tyX5_ok ⟨mz_tb 511 (by decide +kernel) rfl, mz_tb 512 (by decide +kernel) rfl, mz_tb 50 (by decide +kernel) rfl⟩ nw_4 dX6_init__102 hr hc hs (fun v6 h H cells slots dc ds hr hH hS hc hs => ?_)
        refine mz_dupR X dX6_init__105 ?_
        refine mz_aload_n X dX6_init__106 rfl (mz_at hl 1 rfl) ?_
        refine mz_getR X hH fl_RX6_42 dX6_init__107 hr (fun v7 hr => ?_)
        refine lv_iload_n X.1 X.2.1 dX6_init__110 rfl (mz_at hl 2 rfl) ?_
        refine mz_aald (t := 14) X hH (by decide) rfl dX6_init__111 hr (fun v8 hr => ?_)
        refine mz_kI X hH hS hl.1.1 [va_rf v8] [va_rf v6, .int x2, va_rf v5] hr (ct_X5_init_ l g h v6 v8) mb_RX6_39 im_X5_init_ rfl rfl (Nat.le_of_ble_eq_true rfl) ⟨Nat.le_of_ble_eq_true rfl, Nat.le_of_ble_eq_true rfl⟩ hc hs dX6_init__112 rfl (fun _ h H locs cells slots dc ds hr hH hS hc hs => ?_)
        refine mz_aast (t := 14) X hH hS (by decide) rfl rfl dX6_init__115 hr (fun h H locs hr hH hS => ?_)
        exact pf_X6_init__b116 r Y ih h a0 a1 x2 _ _ hr H locs cells slots ls hH hS (mz_sub hl [0, 1, 2] rfl) hc hs
def fn_X6_init__b58 (h : mz_H) (a0 : (Option Nat)) (a1 : (Option Nat)) : mz_Res Unit :=
  mz_op (mz_fR h a1 5 5) fun v1 =>
  if v1 = none then
    mz_ret () h
  else
    mz_op (mz_fR h a1 5 5) fun v2 =>
    mz_op (mz_len h v2 14) fun v3 =>
    mz_aN h 14 v3 (.inr (.inr (.inr (.inr (fun _ => none))))) fun v4 h =>
    mz_op (mz_pF h a0 5 5 (va_rf v4)) fun h =>
    fn_X6_init__b79 1001 h a0 a1 0
set_option maxHeartbeats 4000000 in
set_option maxRecDepth 100000 in
theorem pf_X6_init__b58 (r : Unit) (Y : mz_Y p g RX6 cX6_init_ 3 none "<init>" (mz_AF h0) s m args meth c) (h : mz_H) (a0 : (Option Nat)) (a1 : (Option Nat)) (dc ds : Nat) (hr : fn_X6_init__b58 h a0 a1 = some (r, hf, dc, ds)) : mz_Go l g p e s m args below meth c 2 43 DC DS h0 none hf 3 58 [(0, false, va_rf a0), (1, false, va_rf a1)] [] h dc ds := by
  unfold fn_X6_init__b58 at hr
  intro H locs cells slots ls hH hS hl hc hs
  have X := Y.1
  refine mz_aload_n X dX6_init__58 rfl (mz_at hl 1 rfl) ?_
  refine mz_getR X hH fl_RX6_42 dX6_init__59 hr (fun v1 hr => ?_)
  refine mz_ifnull X 122 dX6_init__62 (by decide) hr (fun hr => ?_) (fun hr => ?_)
  · exact mz_vret Y dX6_init__122 hH hS hc hs hr
  · refine mz_aload_n X dX6_init__65 rfl (mz_at hl 0 rfl) ?_
    refine mz_aload_n X dX6_init__66 rfl (mz_at hl 1 rfl) ?_
    refine mz_getR X hH fl_RX6_42 dX6_init__67 hr (fun v2 hr => ?_)
    refine mz_alen (t := 14) X hH (by decide) dX6_init__70 hr (fun v3 hr => ?_)
    refine mz_kR (t := 14) X hH hS (by decide) rfl (by decide) (mz_tb 511 (by decide +kernel) rfl) dX6_init__71 hr hc hs (fun v4 h H cells slots dc ds hr hH hS hc hs => ?_)
    refine mz_put X hH hS fp_RX6_42 dX6_init__74 (mz_nra _ _).1 (mz_nra _ _).2 hr (fun h H locs hr hH hS => ?_)
    refine lv_iconst (v := 0) X.1 X.2.1 dX6_init__77 (by decide) ?_
    refine mz_istore_n X [(2, false, .int 0), (0, false, va_rf a0), (1, false, va_rf a1)] dX6_init__78 rfl hl (by decide) rfl (fun ls hl => ?_)
    exact pf_X6_init__b79 r Y 1001 h a0 a1 0 _ _ hr H locs cells slots ls hH hS (mz_sub hl [1, 2, 0] rfl) hc hs
def fn_X6_init_ (h : mz_H) (a0 : (Option Nat)) (a1 : (Option Nat)) : mz_Res Unit :=
  mz_chk (a0).isSome <|
  mz_op (mz_fI h a1 5 0) fun v1 =>
  mz_op (mz_pF h a0 5 0 (Value.int v1)) fun h =>
  mz_op (mz_fI h a1 5 1) fun v2 =>
  mz_op (mz_pF h a0 5 1 (Value.int v2)) fun h =>
  mz_op (mz_fI h a1 5 2) fun v3 =>
  mz_op (mz_pF h a0 5 2 (Value.int v3)) fun h =>
  mz_op (mz_fI h a1 5 3) fun v4 =>
  mz_op (mz_pF h a0 5 3 (Value.int v4)) fun h =>
  mz_op (mz_fR h a1 5 4) fun v5 =>
  if v5 = none then
    fn_X6_init__b58 h a0 a1
  else
    mz_oN h 4 1 [.null] fun v6 h =>
    mz_op (mz_fR h a1 5 4) fun v7 =>
    mz_chk (mz_is h v6 4) <| mz_call (fn_X5_init_ h v6 v7) fun _ h =>
    mz_op (mz_pF h a0 5 4 (va_rf v6)) fun h =>
    fn_X6_init__b58 h a0 a1
set_option maxHeartbeats 4000000 in
set_option maxRecDepth 100000 in
theorem pf_X6_init__b0 (r : Unit) (Y : mz_Y p g RX6 cX6_init_ 3 none "<init>" (mz_AF h0) s m args meth c) (h : mz_H) (a0 : (Option Nat)) (a1 : (Option Nat)) (dc ds : Nat) (hr : fn_X6_init_ h a0 a1 = some (r, hf, dc, ds)) : mz_Go l g p e s m args below meth c 2 43 DC DS h0 none hf 3 0 [(0, false, va_rf a0), (1, false, va_rf a1)] [] h dc ds := by
  unfold fn_X6_init_ at hr
  intro H locs cells slots ls hH hS hl hc hs
  have X := Y.1
  refine mz_aload_n X dX6_init__0 rfl (mz_at hl 0 rfl) ?_
  refine mz_oinit X hl.1.1 oi_RX6_3 (Nat.le_of_ble_eq_true rfl) ⟨Nat.le_of_ble_eq_true rfl, Nat.le_of_ble_eq_true rfl⟩ dX6_init__1 hr (fun hr => ?_)
  refine mz_aload_n X dX6_init__4 rfl (mz_at hl 0 rfl) ?_
  refine mz_aload_n X dX6_init__5 rfl (mz_at hl 1 rfl) ?_
  refine mz_getI X hH fl_RX6_15 dX6_init__6 hr (fun v1 hr => ?_)
  refine mz_putF X Y.2.2.2 hH hS fp_RX6_15 dX6_init__9 rfl rfl hr (fun h H locs hr hH hS => ?_)
  refine mz_aload_n X dX6_init__12 rfl (mz_at hl 0 rfl) ?_
  refine mz_aload_n X dX6_init__13 rfl (mz_at hl 1 rfl) ?_
  refine mz_getI X hH fl_RX6_21 dX6_init__14 hr (fun v2 hr => ?_)
  refine mz_putF X Y.2.2.2 hH hS fp_RX6_21 dX6_init__17 rfl rfl hr (fun h H locs hr hH hS => ?_)
  refine mz_aload_n X dX6_init__20 rfl (mz_at hl 0 rfl) ?_
  refine mz_aload_n X dX6_init__21 rfl (mz_at hl 1 rfl) ?_
  refine mz_getI X hH fl_RX6_25 dX6_init__22 hr (fun v3 hr => ?_)
  refine mz_putF X Y.2.2.2 hH hS fp_RX6_25 dX6_init__25 rfl rfl hr (fun h H locs hr hH hS => ?_)
  refine mz_aload_n X dX6_init__28 rfl (mz_at hl 0 rfl) ?_
  refine mz_aload_n X dX6_init__29 rfl (mz_at hl 1 rfl) ?_
  refine mz_getI X hH fl_RX6_29 dX6_init__30 hr (fun v4 hr => ?_)
  refine mz_putF X Y.2.2.2 hH hS fp_RX6_29 dX6_init__33 rfl rfl hr (fun h H locs hr hH hS => ?_)
  refine mz_aload_n X dX6_init__36 rfl (mz_at hl 1 rfl) ?_
  refine mz_getR X hH fl_RX6_35 dX6_init__37 hr (fun v5 hr => ?_)
  refine mz_ifnull X 58 dX6_init__40 (by decide) hr (fun hr => ?_) (fun hr => ?_)
  · exact pf_X6_init__b58 r Y h a0 a1 _ _ hr H locs cells slots ls hH hS (mz_sub hl [0, 1] rfl) hc hs
  · refine mz_aload_n X dX6_init__43 rfl (mz_at hl 0 rfl) ?_
    refine mz_kN X hH hS tyX5 rfl cl_4 tyX5_ok ⟨mz_tb 511 (by decide +kernel) rfl, mz_tb 512 (by decide +kernel) rfl, mz_tb 50 (by decide +kernel) rfl⟩ nw_4 dX6_init__44 hr hc hs (fun v6 h H cells slots dc ds hr hH hS hc hs => ?_)
    refine mz_dupR X dX6_init__47 ?_
    refine mz_aload_n X dX6_init__48 rfl (mz_at hl 1 rfl) ?_
    refine mz_getR X hH fl_RX6_35 dX6_init__49 hr (fun v7 hr => ?_)
    refine mz_kI X hH hS hl.1.1 [va_rf v7] [va_rf v6, va_rf a0] hr (ct_X5_init_ l g h v6 v7) mb_RX6_39 im_X5_init_ rfl rfl (Nat.le_of_ble_eq_true rfl) ⟨Nat.le_of_ble_eq_true rfl, Nat.le_of_ble_eq_true rfl⟩ hc hs dX6_init__52 rfl (fun _ h H locs cells slots dc ds hr hH hS hc hs => ?_)
    refine mz_put X hH hS fp_RX6_35 dX6_init__55 (mz_nrf _ _).1 (mz_nrf _ _).2 hr (fun h H locs hr hH hS => ?_)
    exact pf_X6_init__b58 r Y h a0 a1 _ _ hr H locs cells slots ls hH hS (mz_sub hl [0, 1] rfl) hc hs
set_option maxRecDepth 100000 in
theorem ct_X6_init_ (l : Launch) (g : mz_G) (h : mz_H) (a0 : (Option Nat)) (a1 : (Option Nat)) (r : Unit) (hf : mz_H) (k n : Nat) (hr : fn_X6_init_ h a0 a1 = some (r, hf, k, n)) : mz_C l g yX6_init_ cX6_init_ 3 none 2 43 [va_rf a0, va_rf a1] h none hf k n := by
  refine mz_met (as := [(false, va_rf a0), (false, va_rf a1)]) (plainFor_of_name (by decide)) (mz_c1 (mz_cat_rf _) (mz_c1 (mz_cat_rf _) mz_c0)) (Nat.le_of_ble_eq_true rfl) ?_
  intro p e s m args below meth c Y
  exact pf_X6_init__b0 r Y h a0 a1 _ _ hr
theorem dX6_hasNothing_0 : decode cX6_hasNothing 0 = .ok (.aload_n 0, 1) := by decide +kernel
theorem dX6_hasNothing_1 : decode cX6_hasNothing 1 = .ok (.getfield 35, 3) := by decide +kernel
theorem dX6_hasNothing_4 : decode cX6_hasNothing 4 = .ok (.ifnonnull 14, 3) := by decide +kernel
theorem dX6_hasNothing_7 : decode cX6_hasNothing 7 = .ok (.aload_n 0, 1) := by decide +kernel
theorem dX6_hasNothing_8 : decode cX6_hasNothing 8 = .ok (.getfield 42, 3) := by decide +kernel
theorem dX6_hasNothing_11 : decode cX6_hasNothing 11 = .ok (.ifnonnull 7, 3) := by decide +kernel
theorem dX6_hasNothing_14 : decode cX6_hasNothing 14 = .ok (.iconst 1, 1) := by decide +kernel
theorem dX6_hasNothing_15 : decode cX6_hasNothing 15 = .ok (.goto 4, 3) := by decide +kernel
theorem dX6_hasNothing_18 : decode cX6_hasNothing 18 = .ok (.iconst 0, 1) := by decide +kernel
theorem dX6_hasNothing_19 : decode cX6_hasNothing 19 = .ok (.ireturn, 1) := by decide +kernel
def fn_X6_hasNothing (h : mz_H) (a0 : (Option Nat)) : mz_Res Int32 :=
  mz_op (mz_fR h a0 5 4) fun v1 =>
  if v1 = none then
    mz_op (mz_fR h a0 5 5) fun v2 =>
    if v2 = none then
      mz_chk ((1 : Int32) &&& 1 == 1) (mz_ret 1 h)
    else
      mz_chk ((0 : Int32) &&& 1 == 0) (mz_ret 0 h)
  else
    mz_chk ((0 : Int32) &&& 1 == 0) (mz_ret 0 h)
set_option maxHeartbeats 4000000 in
set_option maxRecDepth 100000 in
theorem pf_X6_hasNothing_b0 (r : Int32) (Y : mz_Y p g RX6 cX6_hasNothing 1 (some .boolean) "hasNothing" (mz_AF h0) s m args meth c) (h : mz_H) (a0 : (Option Nat)) (dc ds : Nat) (hr : fn_X6_hasNothing h a0 = some (r, hf, dc, ds)) : mz_Go l g p e s m args below meth c 0 0 DC DS h0 (some (Value.int r)) hf 1 0 [(0, false, va_rf a0)] [] h dc ds := by
  unfold fn_X6_hasNothing at hr
  intro H locs cells slots ls hH hS hl hc hs
  have X := Y.1
  refine mz_aload_n X dX6_hasNothing_0 rfl (mz_at hl 0 rfl) ?_
  refine mz_getR X hH fl_RX6_35 dX6_hasNothing_1 hr (fun v1 hr => ?_)
  refine mz_ifnonnull X 18 dX6_hasNothing_4 (by decide) hr (fun hr => ?_) (fun hr => ?_)
  · refine lv_iconst (v := 0) X.1 X.2.1 dX6_hasNothing_18 (by decide) ?_
    exact mz_zret Y dX6_hasNothing_19 hH hS hc hs hr
  · refine mz_aload_n X dX6_hasNothing_7 rfl (mz_at hl 0 rfl) ?_
    refine mz_getR X hH fl_RX6_42 dX6_hasNothing_8 hr (fun v2 hr => ?_)
    refine mz_ifnonnull X 18 dX6_hasNothing_11 (by decide) hr (fun hr => ?_) (fun hr => ?_)
    · refine lv_iconst (v := 0) X.1 X.2.1 dX6_hasNothing_18 (by decide) ?_
      exact mz_zret Y dX6_hasNothing_19 hH hS hc hs hr
    · refine lv_iconst (v := 1) X.1 X.2.1 dX6_hasNothing_14 (by decide) ?_
      refine lv_goto (tgt := 19) X.1 X.2.1 dX6_hasNothing_15 (by decide) ?_
      exact mz_zret Y dX6_hasNothing_19 hH hS hc hs hr
set_option maxRecDepth 100000 in
theorem ct_X6_hasNothing (l : Launch) (g : mz_G) (h : mz_H) (a0 : (Option Nat)) (r : Int32) (hf : mz_H) (k n : Nat) (hr : fn_X6_hasNothing h a0 = some (r, hf, k, n)) : mz_C l g yX6_hasNothing cX6_hasNothing 1 (some .boolean) 0 0 [va_rf a0] h (some (Value.int r)) hf k n := by
  refine mz_met (as := [(false, va_rf a0)]) (plainFor_of_name (by decide)) (mz_c1 (mz_cat_rf _) mz_c0) (Nat.le_of_ble_eq_true rfl) ?_
  intro p e s m args below meth c Y
  exact pf_X6_hasNothing_b0 r Y h a0 _ _ hr
theorem dX6_empty_0 : decode cX6_empty 0 = .ok (.aload_n 0, 1) := by decide +kernel
theorem dX6_empty_1 : decode cX6_empty 1 = .ok (.aconst_null, 1) := by decide +kernel
theorem dX6_empty_2 : decode cX6_empty 2 = .ok (.putfield 35, 3) := by decide +kernel
theorem dX6_empty_5 : decode cX6_empty 5 = .ok (.aload_n 0, 1) := by decide +kernel
theorem dX6_empty_6 : decode cX6_empty 6 = .ok (.aconst_null, 1) := by decide +kernel
theorem dX6_empty_7 : decode cX6_empty 7 = .ok (.putfield 42, 3) := by decide +kernel
theorem dX6_empty_10 : decode cX6_empty 10 = .ok (.return_, 1) := by decide +kernel
def fn_X6_empty (h : mz_H) (a0 : (Option Nat)) : mz_Res Unit :=
  mz_op (mz_pF h a0 5 4 (va_rf none)) fun h =>
  mz_op (mz_pF h a0 5 5 (va_rf none)) fun h =>
  mz_ret () h
set_option maxHeartbeats 4000000 in
set_option maxRecDepth 100000 in
theorem pf_X6_empty_b0 (r : Unit) (Y : mz_Y p g RX6 cX6_empty 1 none "empty" (mz_AF h0) s m args meth c) (h : mz_H) (a0 : (Option Nat)) (dc ds : Nat) (hr : fn_X6_empty h a0 = some (r, hf, dc, ds)) : mz_Go l g p e s m args below meth c 0 0 DC DS h0 none hf 1 0 [(0, false, va_rf a0)] [] h dc ds := by
  unfold fn_X6_empty at hr
  intro H locs cells slots ls hH hS hl hc hs
  have X := Y.1
  refine mz_aload_n X dX6_empty_0 rfl (mz_at hl 0 rfl) ?_
  refine mz_null X dX6_empty_1 ?_
  refine mz_put X hH hS fp_RX6_35 dX6_empty_2 (mz_nrf _ _).1 (mz_nrf _ _).2 hr (fun h H locs hr hH hS => ?_)
  refine mz_aload_n X dX6_empty_5 rfl (mz_at hl 0 rfl) ?_
  refine mz_null X dX6_empty_6 ?_
  refine mz_put X hH hS fp_RX6_42 dX6_empty_7 (mz_nra _ _).1 (mz_nra _ _).2 hr (fun h H locs hr hH hS => ?_)
  exact mz_vret Y dX6_empty_10 hH hS hc hs hr
set_option maxRecDepth 100000 in
theorem ct_X6_empty (l : Launch) (g : mz_G) (h : mz_H) (a0 : (Option Nat)) (r : Unit) (hf : mz_H) (k n : Nat) (hr : fn_X6_empty h a0 = some (r, hf, k, n)) : mz_C l g yX6_empty cX6_empty 1 none 0 0 [va_rf a0] h none hf k n := by
  refine mz_met (as := [(false, va_rf a0)]) (plainFor_of_name (by decide)) (mz_c1 (mz_cat_rf _) mz_c0) (Nat.le_of_ble_eq_true rfl) ?_
  intro p e s m args below meth c Y
  exact pf_X6_empty_b0 r Y h a0 _ _ hr
theorem dX6_fillAnew_0 : decode cX6_fillAnew 0 = .ok (.aload_n 0, 1) := by decide +kernel
theorem dX6_fillAnew_1 : decode cX6_fillAnew 1 = .ok (.getfield 25, 3) := by decide +kernel
theorem dX6_fillAnew_4 : decode cX6_fillAnew 4 = .ok (.iconst 2, 1) := by decide +kernel
theorem dX6_fillAnew_5 : decode cX6_fillAnew 5 = .ok (.if_icmp .ne 18, 3) := by decide +kernel
theorem dX6_fillAnew_8 : decode cX6_fillAnew 8 = .ok (.aload_n 0, 1) := by decide +kernel
theorem dX6_fillAnew_9 : decode cX6_fillAnew 9 = .ok (.iload_n 1, 1) := by decide +kernel
theorem dX6_fillAnew_10 : decode cX6_fillAnew 10 = .ok (.iconst 0, 1) := by decide +kernel
theorem dX6_fillAnew_11 : decode cX6_fillAnew 11 = .ok (.invokestatic 46, 3) := by decide +kernel
theorem dX6_fillAnew_14 : decode cX6_fillAnew 14 = .ok (.anewarray 30, 3) := by decide +kernel
theorem dX6_fillAnew_17 : decode cX6_fillAnew 17 = .ok (.putfield 42, 3) := by decide +kernel
theorem dX6_fillAnew_20 : decode cX6_fillAnew 20 = .ok (.goto 19, 3) := by decide +kernel
theorem dX6_fillAnew_23 : decode cX6_fillAnew 23 = .ok (.aload_n 0, 1) := by decide +kernel
theorem dX6_fillAnew_24 : decode cX6_fillAnew 24 = .ok (.new 30, 3) := by decide +kernel
theorem dX6_fillAnew_27 : decode cX6_fillAnew 27 = .ok (.dup, 1) := by decide +kernel
theorem dX6_fillAnew_28 : decode cX6_fillAnew 28 = .ok (.iload_n 1, 1) := by decide +kernel
theorem dX6_fillAnew_29 : decode cX6_fillAnew 29 = .ok (.aload_n 0, 1) := by decide +kernel
theorem dX6_fillAnew_30 : decode cX6_fillAnew 30 = .ok (.getfield 21, 3) := by decide +kernel
theorem dX6_fillAnew_33 : decode cX6_fillAnew 33 = .ok (.invokespecial 32, 3) := by decide +kernel
theorem dX6_fillAnew_36 : decode cX6_fillAnew 36 = .ok (.putfield 35, 3) := by decide +kernel
theorem dX6_fillAnew_39 : decode cX6_fillAnew 39 = .ok (.return_, 1) := by decide +kernel
def fn_X6_fillAnew (h : mz_H) (a0 : (Option Nat)) (x1 : Int32) : mz_Res Unit :=
  mz_op (mz_fI h a0 5 2) fun v1 =>
  if v1 = 2 then
    mz_aN h 14 (if x1 < 0 then 0 else x1) (.inr (.inr (.inr (.inr (fun _ => none))))) fun v4 h =>
    mz_op (mz_pF h a0 5 5 (va_rf v4)) fun h =>
    mz_ret () h
  else
    mz_oN h 4 1 [.null] fun v2 h =>
    mz_op (mz_fI h a0 5 1) fun v3 =>
    mz_chk (mz_is h v2 4) <| mz_call (fn_X5_init h v2 x1 v3) fun _ h =>
    mz_op (mz_pF h a0 5 4 (va_rf v2)) fun h =>
    mz_ret () h
set_option maxHeartbeats 4000000 in
set_option maxRecDepth 100000 in
theorem pf_X6_fillAnew_b0 (r : Unit) (Y : mz_Y p g RX6 cX6_fillAnew 2 none "fillAnew" (mz_AF h0) s m args meth c) (h : mz_H) (a0 : (Option Nat)) (x1 : Int32) (dc ds : Nat) (hr : fn_X6_fillAnew h a0 x1 = some (r, hf, dc, ds)) : mz_Go l g p e s m args below meth c 2 46 DC DS h0 none hf 2 0 [(0, false, va_rf a0), (1, false, .int x1)] [] h dc ds := by
  unfold fn_X6_fillAnew at hr
  intro H locs cells slots ls hH hS hl hc hs
  have X := Y.1
  refine mz_aload_n X dX6_fillAnew_0 rfl (mz_at hl 0 rfl) ?_
  refine mz_getI X hH fl_RX6_25 dX6_fillAnew_1 hr (fun v1 hr => ?_)
  refine lv_iconst (v := 2) X.1 X.2.1 dX6_fillAnew_4 (by decide) ?_
  refine mz_icmp_ne X 23 dX6_fillAnew_5 (by decide) hr (fun hr => ?_) (fun hr => ?_)
  · refine mz_aload_n X dX6_fillAnew_23 rfl (mz_at hl 0 rfl) ?_
    refine mz_kN X hH hS tyX5 rfl cl_4 tyX5_ok ⟨mz_tb 511 (by decide +kernel) rfl, mz_tb 512 (by decide +kernel) rfl, mz_tb 50 (by decide +kernel) rfl⟩ nw_4 dX6_fillAnew_24 hr hc hs (fun v2 h H cells slots dc ds hr hH hS hc hs => ?_)
    refine mz_dupR X dX6_fillAnew_27 ?_
    refine lv_iload_n X.1 X.2.1 dX6_fillAnew_28 rfl (mz_at hl 1 rfl) ?_
    refine mz_aload_n X dX6_fillAnew_29 rfl (mz_at hl 0 rfl) ?_
    refine mz_getI X hH fl_RX6_21 dX6_fillAnew_30 hr (fun v3 hr => ?_)
    refine mz_kI X hH hS hl.1.1 [.int x1, .int v3] [va_rf v2, va_rf a0] hr (ct_X5_init l g h v2 x1 v3) mb_RX6_32 im_X5_init rfl rfl (Nat.le_of_ble_eq_true rfl) ⟨Nat.le_of_ble_eq_true rfl, Nat.le_of_ble_eq_true rfl⟩ hc hs dX6_fillAnew_33 rfl (fun _ h H locs cells slots dc ds hr hH hS hc hs => ?_)
    refine mz_put X hH hS fp_RX6_35 dX6_fillAnew_36 (mz_nrf _ _).1 (mz_nrf _ _).2 hr (fun h H locs hr hH hS => ?_)
    exact mz_vret Y dX6_fillAnew_39 hH hS hc hs hr
  · refine mz_aload_n X dX6_fillAnew_8 rfl (mz_at hl 0 rfl) ?_
    refine lv_iload_n X.1 X.2.1 dX6_fillAnew_9 rfl (mz_at hl 1 rfl) ?_
    refine lv_iconst (v := 0) X.1 X.2.1 dX6_fillAnew_10 (by decide) ?_
    refine mz_max X hl.1.1 mx_RX6_46 (Nat.le_of_ble_eq_true rfl) ⟨Nat.le_of_ble_eq_true rfl, Nat.le_of_ble_eq_true rfl⟩ hc hs dX6_fillAnew_11 ?_
    refine mz_kR (t := 14) X hH hS (by decide) rfl (by decide) (mz_tb 511 (by decide +kernel) rfl) dX6_fillAnew_14 hr hc hs (fun v4 h H cells slots dc ds hr hH hS hc hs => ?_)
    refine mz_put X hH hS fp_RX6_42 dX6_fillAnew_17 (mz_nra _ _).1 (mz_nra _ _).2 hr (fun h H locs hr hH hS => ?_)
    refine lv_goto (tgt := 39) X.1 X.2.1 dX6_fillAnew_20 (by decide) ?_
    exact mz_vret Y dX6_fillAnew_39 hH hS hc hs hr
set_option maxRecDepth 100000 in
theorem ct_X6_fillAnew (l : Launch) (g : mz_G) (h : mz_H) (a0 : (Option Nat)) (x1 : Int32) (r : Unit) (hf : mz_H) (k n : Nat) (hr : fn_X6_fillAnew h a0 x1 = some (r, hf, k, n)) : mz_C l g yX6_fillAnew cX6_fillAnew 2 none 2 46 [va_rf a0, .int x1] h none hf k n := by
  refine mz_met (as := [(false, va_rf a0), (false, .int x1)]) (plainFor_of_name (by decide)) (mz_c1 (mz_cat_rf _) (mz_c1 rfl mz_c0)) (Nat.le_of_ble_eq_true rfl) ?_
  intro p e s m args below meth c Y
  exact pf_X6_fillAnew_b0 r Y h a0 x1 _ _ hr
theorem dX6_length_0 : decode cX6_length 0 = .ok (.aload_n 0, 1) := by decide +kernel
theorem dX6_length_1 : decode cX6_length 1 = .ok (.getfield 42, 3) := by decide +kernel
theorem dX6_length_4 : decode cX6_length 4 = .ok (.ifnull 9, 3) := by decide +kernel
theorem dX6_length_7 : decode cX6_length 7 = .ok (.aload_n 0, 1) := by decide +kernel
theorem dX6_length_8 : decode cX6_length 8 = .ok (.getfield 42, 3) := by decide +kernel
theorem dX6_length_11 : decode cX6_length 11 = .ok (.arraylength, 1) := by decide +kernel
theorem dX6_length_12 : decode cX6_length 12 = .ok (.ireturn, 1) := by decide +kernel
theorem dX6_length_13 : decode cX6_length 13 = .ok (.aload_n 0, 1) := by decide +kernel
theorem dX6_length_14 : decode cX6_length 14 = .ok (.getfield 35, 3) := by decide +kernel
theorem dX6_length_17 : decode cX6_length 17 = .ok (.ifnonnull 7, 3) := by decide +kernel
theorem dX6_length_20 : decode cX6_length 20 = .ok (.iconst 0, 1) := by decide +kernel
theorem dX6_length_21 : decode cX6_length 21 = .ok (.goto 11, 3) := by decide +kernel
theorem dX6_length_24 : decode cX6_length 24 = .ok (.aload_n 0, 1) := by decide +kernel
theorem dX6_length_25 : decode cX6_length 25 = .ok (.getfield 35, 3) := by decide +kernel
theorem dX6_length_28 : decode cX6_length 28 = .ok (.getfield 52, 3) := by decide +kernel
theorem dX6_length_31 : decode cX6_length 31 = .ok (.arraylength, 1) := by decide +kernel
theorem dX6_length_32 : decode cX6_length 32 = .ok (.ireturn, 1) := by decide +kernel
def fn_X6_length (h : mz_H) (a0 : (Option Nat)) : mz_Res Int32 :=
  mz_op (mz_fR h a0 5 5) fun v1 =>
  if v1 = none then
    mz_op (mz_fR h a0 5 4) fun v2 =>
    if v2 = none then
      mz_ret 0 h
    else
      mz_op (mz_fR h a0 5 4) fun v3 =>
      mz_op (mz_fR h v3 4 0) fun v4 =>
      mz_op (mz_len h v4 1) fun v5 =>
      mz_ret v5 h
  else
    mz_op (mz_fR h a0 5 5) fun v6 =>
    mz_op (mz_len h v6 14) fun v7 =>
    mz_ret v7 h
set_option maxHeartbeats 4000000 in
set_option maxRecDepth 100000 in
theorem pf_X6_length_b0 (r : Int32) (Y : mz_Y p g RX6 cX6_length 1 (some .int) "length" (mz_AF h0) s m args meth c) (h : mz_H) (a0 : (Option Nat)) (dc ds : Nat) (hr : fn_X6_length h a0 = some (r, hf, dc, ds)) : mz_Go l g p e s m args below meth c 0 0 DC DS h0 (some (Value.int r)) hf 1 0 [(0, false, va_rf a0)] [] h dc ds := by
  unfold fn_X6_length at hr
  intro H locs cells slots ls hH hS hl hc hs
  have X := Y.1
  refine mz_aload_n X dX6_length_0 rfl (mz_at hl 0 rfl) ?_
  refine mz_getR X hH fl_RX6_42 dX6_length_1 hr (fun v1 hr => ?_)
  refine mz_ifnull X 13 dX6_length_4 (by decide) hr (fun hr => ?_) (fun hr => ?_)
  · refine mz_aload_n X dX6_length_13 rfl (mz_at hl 0 rfl) ?_
    refine mz_getR X hH fl_RX6_35 dX6_length_14 hr (fun v2 hr => ?_)
    refine mz_ifnonnull X 24 dX6_length_17 (by decide) hr (fun hr => ?_) (fun hr => ?_)
    · refine mz_aload_n X dX6_length_24 rfl (mz_at hl 0 rfl) ?_
      refine mz_getR X hH fl_RX6_35 dX6_length_25 hr (fun v3 hr => ?_)
      refine mz_getR X hH fl_RX6_52 dX6_length_28 hr (fun v4 hr => ?_)
      refine mz_alen (t := 1) X hH (by decide) dX6_length_31 hr (fun v5 hr => ?_)
      exact mz_iret Y dX6_length_32 hH hS hc hs hr
    · refine lv_iconst (v := 0) X.1 X.2.1 dX6_length_20 (by decide) ?_
      refine lv_goto (tgt := 32) X.1 X.2.1 dX6_length_21 (by decide) ?_
      exact mz_iret Y dX6_length_32 hH hS hc hs hr
  · refine mz_aload_n X dX6_length_7 rfl (mz_at hl 0 rfl) ?_
    refine mz_getR X hH fl_RX6_42 dX6_length_8 hr (fun v6 hr => ?_)
    refine mz_alen (t := 14) X hH (by decide) dX6_length_11 hr (fun v7 hr => ?_)
    exact mz_iret Y dX6_length_12 hH hS hc hs hr
set_option maxRecDepth 100000 in
theorem ct_X6_length (l : Launch) (g : mz_G) (h : mz_H) (a0 : (Option Nat)) (r : Int32) (hf : mz_H) (k n : Nat) (hr : fn_X6_length h a0 = some (r, hf, k, n)) : mz_C l g yX6_length cX6_length 1 (some .int) 0 0 [va_rf a0] h (some (Value.int r)) hf k n := by
  refine mz_met (as := [(false, va_rf a0)]) (plainFor_of_name (by decide)) (mz_c1 (mz_cat_rf _) mz_c0) (Nat.le_of_ble_eq_true rfl) ?_
  intro p e s m args below meth c Y
  exact pf_X6_length_b0 r Y h a0 _ _ hr
theorem dX6_rowAt_0 : decode cX6_rowAt 0 = .ok (.aload_n 0, 1) := by decide +kernel
theorem dX6_rowAt_1 : decode cX6_rowAt 1 = .ok (.getfield 42, 3) := by decide +kernel
theorem dX6_rowAt_4 : decode cX6_rowAt 4 = .ok (.ifnonnull 8, 3) := by decide +kernel
theorem dX6_rowAt_7 : decode cX6_rowAt 7 = .ok (.aload_n 0, 1) := by decide +kernel
theorem dX6_rowAt_8 : decode cX6_rowAt 8 = .ok (.getfield 35, 3) := by decide +kernel
theorem dX6_rowAt_11 : decode cX6_rowAt 11 = .ok (.areturn, 1) := by decide +kernel
theorem dX6_rowAt_12 : decode cX6_rowAt 12 = .ok (.iload_n 1, 1) := by decide +kernel
theorem dX6_rowAt_13 : decode cX6_rowAt 13 = .ok (.ifCond .lt 21, 3) := by decide +kernel
theorem dX6_rowAt_16 : decode cX6_rowAt 16 = .ok (.iload_n 1, 1) := by decide +kernel
theorem dX6_rowAt_17 : decode cX6_rowAt 17 = .ok (.aload_n 0, 1) := by decide +kernel
theorem dX6_rowAt_18 : decode cX6_rowAt 18 = .ok (.getfield 42, 3) := by decide +kernel
theorem dX6_rowAt_21 : decode cX6_rowAt 21 = .ok (.arraylength, 1) := by decide +kernel
theorem dX6_rowAt_22 : decode cX6_rowAt 22 = .ok (.if_icmp .ge 12, 3) := by decide +kernel
theorem dX6_rowAt_25 : decode cX6_rowAt 25 = .ok (.aload_n 0, 1) := by decide +kernel
theorem dX6_rowAt_26 : decode cX6_rowAt 26 = .ok (.getfield 42, 3) := by decide +kernel
theorem dX6_rowAt_29 : decode cX6_rowAt 29 = .ok (.iload_n 1, 1) := by decide +kernel
theorem dX6_rowAt_30 : decode cX6_rowAt 30 = .ok (.aaload, 1) := by decide +kernel
theorem dX6_rowAt_31 : decode cX6_rowAt 31 = .ok (.goto 4, 3) := by decide +kernel
theorem dX6_rowAt_34 : decode cX6_rowAt 34 = .ok (.aconst_null, 1) := by decide +kernel
theorem dX6_rowAt_35 : decode cX6_rowAt 35 = .ok (.areturn, 1) := by decide +kernel
def fn_X6_rowAt (h : mz_H) (a0 : (Option Nat)) (x1 : Int32) : mz_Res (Option Nat) :=
  mz_op (mz_fR h a0 5 5) fun v1 =>
  if v1 = none then
    mz_op (mz_fR h a0 5 4) fun v6 =>
    mz_ret v6 h
  else
    if x1 < 0 then
      mz_ret none h
    else
      mz_op (mz_fR h a0 5 5) fun v2 =>
      mz_op (mz_len h v2 14) fun v3 =>
      if v3 ≤ x1 then
        mz_ret none h
      else
        mz_op (mz_fR h a0 5 5) fun v4 =>
        mz_op (mz_aR h v4 14 x1) fun v5 =>
        mz_ret v5 h
set_option maxHeartbeats 4000000 in
set_option maxRecDepth 100000 in
theorem pf_X6_rowAt_b0 (r : (Option Nat)) (Y : mz_Y p g RX6 cX6_rowAt 2 (some (.object "MemberScanner$Row")) "rowAt" (mz_AF h0) s m args meth c) (h : mz_H) (a0 : (Option Nat)) (x1 : Int32) (dc ds : Nat) (hr : fn_X6_rowAt h a0 x1 = some (r, hf, dc, ds)) : mz_Go l g p e s m args below meth c 0 0 DC DS h0 (some (va_rf r)) hf 2 0 [(0, false, va_rf a0), (1, false, .int x1)] [] h dc ds := by
  unfold fn_X6_rowAt at hr
  intro H locs cells slots ls hH hS hl hc hs
  have X := Y.1
  refine mz_aload_n X dX6_rowAt_0 rfl (mz_at hl 0 rfl) ?_
  refine mz_getR X hH fl_RX6_42 dX6_rowAt_1 hr (fun v1 hr => ?_)
  refine mz_ifnonnull X 12 dX6_rowAt_4 (by decide) hr (fun hr => ?_) (fun hr => ?_)
  · refine lv_iload_n X.1 X.2.1 dX6_rowAt_12 rfl (mz_at hl 1 rfl) ?_
    refine mz_if_lt X 34 dX6_rowAt_13 (by decide) hr (fun hr => ?_) (fun hr => ?_)
    · refine mz_null X dX6_rowAt_34 ?_
      exact mz_aret Y dX6_rowAt_35 hH hS hc hs hr
    · refine lv_iload_n X.1 X.2.1 dX6_rowAt_16 rfl (mz_at hl 1 rfl) ?_
      refine mz_aload_n X dX6_rowAt_17 rfl (mz_at hl 0 rfl) ?_
      refine mz_getR X hH fl_RX6_42 dX6_rowAt_18 hr (fun v2 hr => ?_)
      refine mz_alen (t := 14) X hH (by decide) dX6_rowAt_21 hr (fun v3 hr => ?_)
      refine mz_icmp_ge X 34 dX6_rowAt_22 (by decide) hr (fun hr => ?_) (fun hr => ?_)
      · refine mz_null X dX6_rowAt_34 ?_
        exact mz_aret Y dX6_rowAt_35 hH hS hc hs hr
      · refine mz_aload_n X dX6_rowAt_25 rfl (mz_at hl 0 rfl) ?_
        refine mz_getR X hH fl_RX6_42 dX6_rowAt_26 hr (fun v4 hr => ?_)
        refine lv_iload_n X.1 X.2.1 dX6_rowAt_29 rfl (mz_at hl 1 rfl) ?_
        refine mz_aald (t := 14) X hH (by decide) rfl dX6_rowAt_30 hr (fun v5 hr => ?_)
        refine lv_goto (tgt := 35) X.1 X.2.1 dX6_rowAt_31 (by decide) ?_
        exact mz_aret Y dX6_rowAt_35 hH hS hc hs hr
  · refine mz_aload_n X dX6_rowAt_7 rfl (mz_at hl 0 rfl) ?_
    refine mz_getR X hH fl_RX6_35 dX6_rowAt_8 hr (fun v6 hr => ?_)
    exact mz_aret Y dX6_rowAt_11 hH hS hc hs hr
set_option maxRecDepth 100000 in
theorem ct_X6_rowAt (l : Launch) (g : mz_G) (h : mz_H) (a0 : (Option Nat)) (x1 : Int32) (r : (Option Nat)) (hf : mz_H) (k n : Nat) (hr : fn_X6_rowAt h a0 x1 = some (r, hf, k, n)) : mz_C l g yX6_rowAt cX6_rowAt 2 (some (.object "MemberScanner$Row")) 0 0 [va_rf a0, .int x1] h (some (va_rf r)) hf k n := by
  refine mz_met (as := [(false, va_rf a0), (false, .int x1)]) (plainFor_of_name (by decide)) (mz_c1 (mz_cat_rf _) (mz_c1 rfl mz_c0)) (Nat.le_of_ble_eq_true rfl) ?_
  intro p e s m args below meth c Y
  exact pf_X6_rowAt_b0 r Y h a0 x1 _ _ hr
theorem dX6_faultAt_0 : decode cX6_faultAt 0 = .ok (.aload_n 0, 1) := by decide +kernel
theorem dX6_faultAt_1 : decode cX6_faultAt 1 = .ok (.invokevirtual 56, 3) := by decide +kernel
theorem dX6_faultAt_4 : decode cX6_faultAt 4 = .ok (.ifCond .eq 5, 3) := by decide +kernel
theorem dX6_faultAt_7 : decode cX6_faultAt 7 = .ok (.iconst 1, 1) := by decide +kernel
theorem dX6_faultAt_8 : decode cX6_faultAt 8 = .ok (.ireturn, 1) := by decide +kernel
theorem dX6_faultAt_9 : decode cX6_faultAt 9 = .ok (.iload_n 1, 1) := by decide +kernel
theorem dX6_faultAt_10 : decode cX6_faultAt 10 = .ok (.ifCond .lt 11, 3) := by decide +kernel
theorem dX6_faultAt_13 : decode cX6_faultAt 13 = .ok (.iload_n 1, 1) := by decide +kernel
theorem dX6_faultAt_14 : decode cX6_faultAt 14 = .ok (.aload_n 0, 1) := by decide +kernel
theorem dX6_faultAt_15 : decode cX6_faultAt 15 = .ok (.invokevirtual 60, 3) := by decide +kernel
theorem dX6_faultAt_18 : decode cX6_faultAt 18 = .ok (.if_icmp .lt 5, 3) := by decide +kernel
theorem dX6_faultAt_21 : decode cX6_faultAt 21 = .ok (.iconst 3, 1) := by decide +kernel
theorem dX6_faultAt_22 : decode cX6_faultAt 22 = .ok (.ireturn, 1) := by decide +kernel
theorem dX6_faultAt_23 : decode cX6_faultAt 23 = .ok (.aload_n 0, 1) := by decide +kernel
theorem dX6_faultAt_24 : decode cX6_faultAt 24 = .ok (.iload_n 1, 1) := by decide +kernel
theorem dX6_faultAt_25 : decode cX6_faultAt 25 = .ok (.invokevirtual 64, 3) := by decide +kernel
theorem dX6_faultAt_28 : decode cX6_faultAt 28 = .ok (.astore_n 3, 1) := by decide +kernel
theorem dX6_faultAt_29 : decode cX6_faultAt 29 = .ok (.aload_n 3, 1) := by decide +kernel
theorem dX6_faultAt_30 : decode cX6_faultAt 30 = .ok (.ifnonnull 5, 3) := by decide +kernel
theorem dX6_faultAt_33 : decode cX6_faultAt 33 = .ok (.iconst 1, 1) := by decide +kernel
theorem dX6_faultAt_34 : decode cX6_faultAt 34 = .ok (.ireturn, 1) := by decide +kernel
theorem dX6_faultAt_35 : decode cX6_faultAt 35 = .ok (.aload_n 3, 1) := by decide +kernel
theorem dX6_faultAt_36 : decode cX6_faultAt 36 = .ok (.aload_n 0, 1) := by decide +kernel
theorem dX6_faultAt_37 : decode cX6_faultAt 37 = .ok (.getfield 25, 3) := by decide +kernel
theorem dX6_faultAt_40 : decode cX6_faultAt 40 = .ok (.iconst 2, 1) := by decide +kernel
theorem dX6_faultAt_41 : decode cX6_faultAt 41 = .ok (.if_icmp .ne 7, 3) := by decide +kernel
theorem dX6_faultAt_44 : decode cX6_faultAt 44 = .ok (.iload_n 2, 1) := by decide +kernel
theorem dX6_faultAt_45 : decode cX6_faultAt 45 = .ok (.goto 4, 3) := by decide +kernel
theorem dX6_faultAt_48 : decode cX6_faultAt 48 = .ok (.iload_n 1, 1) := by decide +kernel
theorem dX6_faultAt_49 : decode cX6_faultAt 49 = .ok (.invokevirtual 68, 3) := by decide +kernel
theorem dX6_faultAt_52 : decode cX6_faultAt 52 = .ok (.ifCond .eq 7, 3) := by decide +kernel
theorem dX6_faultAt_55 : decode cX6_faultAt 55 = .ok (.iconst 0, 1) := by decide +kernel
theorem dX6_faultAt_56 : decode cX6_faultAt 56 = .ok (.goto 4, 3) := by decide +kernel
theorem dX6_faultAt_59 : decode cX6_faultAt 59 = .ok (.iconst 3, 1) := by decide +kernel
theorem dX6_faultAt_60 : decode cX6_faultAt 60 = .ok (.ireturn, 1) := by decide +kernel
def fn_X6_faultAt_b49 (h : mz_H) (s0 : (Option Nat)) (s1 : Int32) : mz_Res Int32 :=
  mz_chk (mz_is h s0 4) <| mz_call (fn_X5_has h s0 s1) fun v1 h =>
  if v1 = 0 then
    mz_ret 3 h
  else
    mz_ret 0 h
set_option maxHeartbeats 4000000 in
set_option maxRecDepth 100000 in
theorem pf_X6_faultAt_b49 (r : Int32) (Y : mz_Y p g RX6 cX6_faultAt 4 (some .int) "faultAt" (mz_AF h0) s m args meth c) (h : mz_H) (s0 : (Option Nat)) (s1 : Int32) (dc ds : Nat) (hr : fn_X6_faultAt_b49 h s0 s1 = some (r, hf, dc, ds)) : mz_Go l g p e s m args below meth c 1 21 DC DS h0 (some (Value.int r)) hf 4 49 [] [.int s1, va_rf s0] h dc ds := by
  unfold fn_X6_faultAt_b49 at hr
  intro H locs cells slots ls hH hS hl hc hs
  have X := Y.1
  refine mz_kV Value.int X hH hS hl.1.1 [.int s1] [] hr (ct_X5_has l g h s0 s1) mb_RX6_68 rfl im_X5_has rfl (Nat.le_of_ble_eq_true rfl) ⟨Nat.le_of_ble_eq_true rfl, Nat.le_of_ble_eq_true rfl⟩ hc hs dX6_faultAt_49 rfl (fun v1 h H locs cells slots dc ds hr hH hS hc hs => ?_)
  refine mz_if_eq X 59 dX6_faultAt_52 (by decide) hr (fun hr => ?_) (fun hr => ?_)
  · refine lv_iconst (v := 3) X.1 X.2.1 dX6_faultAt_59 (by decide) ?_
    exact mz_iret Y dX6_faultAt_60 hH hS hc hs hr
  · refine lv_iconst (v := 0) X.1 X.2.1 dX6_faultAt_55 (by decide) ?_
    refine lv_goto (tgt := 60) X.1 X.2.1 dX6_faultAt_56 (by decide) ?_
    exact mz_iret Y dX6_faultAt_60 hH hS hc hs hr
def fn_X6_faultAt (h : mz_H) (a0 : (Option Nat)) (x1 : Int32) (x2 : Int32) : mz_Res Int32 :=
  mz_chk (mz_is h a0 5) <| mz_call (fn_X6_hasNothing h a0) fun v1 h =>
  if v1 = 0 then
    if x1 < 0 then
      mz_ret 3 h
    else
      mz_chk (mz_is h a0 5) <| mz_call (fn_X6_length h a0) fun v2 h =>
      if x1 < v2 then
        mz_chk (mz_is h a0 5) <| mz_call (fn_X6_rowAt h a0 x1) fun v3 h =>
        if v3 = none then
          mz_ret 1 h
        else
          mz_op (mz_fI h a0 5 2) fun v4 =>
          if v4 = 2 then
            fn_X6_faultAt_b49 h v3 x2
          else
            fn_X6_faultAt_b49 h v3 x1
      else
        mz_ret 3 h
  else
    mz_ret 1 h
set_option maxHeartbeats 4000000 in
set_option maxRecDepth 100000 in
theorem pf_X6_faultAt_b0 (r : Int32) (Y : mz_Y p g RX6 cX6_faultAt 4 (some .int) "faultAt" (mz_AF h0) s m args meth c) (h : mz_H) (a0 : (Option Nat)) (x1 : Int32) (x2 : Int32) (dc ds : Nat) (hr : fn_X6_faultAt h a0 x1 x2 = some (r, hf, dc, ds)) : mz_Go l g p e s m args below meth c 1 21 DC DS h0 (some (Value.int r)) hf 4 0 [(0, false, va_rf a0), (1, false, .int x1), (2, false, .int x2)] [] h dc ds := by
  unfold fn_X6_faultAt at hr
  intro H locs cells slots ls hH hS hl hc hs
  have X := Y.1
  refine mz_aload_n X dX6_faultAt_0 rfl (mz_at hl 0 rfl) ?_
  refine mz_kV Value.int X hH hS hl.1.1 [] [] hr (ct_X6_hasNothing l g h a0) mb_RX6_56 rfl im_X6_hasNothing rfl (Nat.le_of_ble_eq_true rfl) ⟨Nat.le_of_ble_eq_true rfl, Nat.le_of_ble_eq_true rfl⟩ hc hs dX6_faultAt_1 rfl (fun v1 h H locs cells slots dc ds hr hH hS hc hs => ?_)
  refine mz_if_eq X 9 dX6_faultAt_4 (by decide) hr (fun hr => ?_) (fun hr => ?_)
  · refine lv_iload_n X.1 X.2.1 dX6_faultAt_9 rfl (mz_at hl 1 rfl) ?_
    refine mz_if_lt X 21 dX6_faultAt_10 (by decide) hr (fun hr => ?_) (fun hr => ?_)
    · refine lv_iconst (v := 3) X.1 X.2.1 dX6_faultAt_21 (by decide) ?_
      exact mz_iret Y dX6_faultAt_22 hH hS hc hs hr
    · refine lv_iload_n X.1 X.2.1 dX6_faultAt_13 rfl (mz_at hl 1 rfl) ?_
      refine mz_aload_n X dX6_faultAt_14 rfl (mz_at hl 0 rfl) ?_
      refine mz_kV Value.int X hH hS hl.1.1 [] [.int x1] hr (ct_X6_length l g h a0) mb_RX6_60 rfl im_X6_length rfl (Nat.le_of_ble_eq_true rfl) ⟨Nat.le_of_ble_eq_true rfl, Nat.le_of_ble_eq_true rfl⟩ hc hs dX6_faultAt_15 rfl (fun v2 h H locs cells slots dc ds hr hH hS hc hs => ?_)
      refine mz_icmp_lt X 23 dX6_faultAt_18 (by decide) hr (fun hr => ?_) (fun hr => ?_)
      · refine mz_aload_n X dX6_faultAt_23 rfl (mz_at hl 0 rfl) ?_
        refine lv_iload_n X.1 X.2.1 dX6_faultAt_24 rfl (mz_at hl 1 rfl) ?_
        refine mz_kV va_rf X hH hS hl.1.1 [.int x1] [] hr (ct_X6_rowAt l g h a0 x1) mb_RX6_64 rfl im_X6_rowAt rfl (Nat.le_of_ble_eq_true rfl) ⟨Nat.le_of_ble_eq_true rfl, Nat.le_of_ble_eq_true rfl⟩ hc hs dX6_faultAt_25 rfl (fun v3 h H locs cells slots dc ds hr hH hS hc hs => ?_)
        refine mz_astore_n X [(3, false, va_rf v3), (0, false, va_rf a0), (1, false, .int x1), (2, false, .int x2)] dX6_faultAt_28 rfl hl (by decide) rfl (fun ls hl => ?_)
        refine mz_aload_n X dX6_faultAt_29 rfl (mz_at hl 0 rfl) ?_
        refine mz_ifnonnull X 35 dX6_faultAt_30 (by decide) hr (fun hr => ?_) (fun hr => ?_)
        · refine mz_aload_n X dX6_faultAt_35 rfl (mz_at hl 0 rfl) ?_
          refine mz_aload_n X dX6_faultAt_36 rfl (mz_at hl 1 rfl) ?_
          refine mz_getI X hH fl_RX6_25 dX6_faultAt_37 hr (fun v4 hr => ?_)
          refine lv_iconst (v := 2) X.1 X.2.1 dX6_faultAt_40 (by decide) ?_
          refine mz_icmp_ne X 48 dX6_faultAt_41 (by decide) hr (fun hr => ?_) (fun hr => ?_)
          · refine lv_iload_n X.1 X.2.1 dX6_faultAt_48 rfl (mz_at hl 2 rfl) ?_
            exact pf_X6_faultAt_b49 r Y h v3 x1 _ _ hr H locs cells slots ls hH hS (mz_sub hl [] rfl) hc hs
          · refine lv_iload_n X.1 X.2.1 dX6_faultAt_44 rfl (mz_at hl 3 rfl) ?_
            refine lv_goto (tgt := 49) X.1 X.2.1 dX6_faultAt_45 (by decide) ?_
            exact pf_X6_faultAt_b49 r Y h v3 x2 _ _ hr H locs cells slots ls hH hS (mz_sub hl [] rfl) hc hs
        · refine lv_iconst (v := 1) X.1 X.2.1 dX6_faultAt_33 (by decide) ?_
          exact mz_iret Y dX6_faultAt_34 hH hS hc hs hr
      · refine lv_iconst (v := 3) X.1 X.2.1 dX6_faultAt_21 (by decide) ?_
        exact mz_iret Y dX6_faultAt_22 hH hS hc hs hr
  · refine lv_iconst (v := 1) X.1 X.2.1 dX6_faultAt_7 (by decide) ?_
    exact mz_iret Y dX6_faultAt_8 hH hS hc hs hr
set_option maxRecDepth 100000 in
theorem ct_X6_faultAt (l : Launch) (g : mz_G) (h : mz_H) (a0 : (Option Nat)) (x1 : Int32) (x2 : Int32) (r : Int32) (hf : mz_H) (k n : Nat) (hr : fn_X6_faultAt h a0 x1 x2 = some (r, hf, k, n)) : mz_C l g yX6_faultAt cX6_faultAt 4 (some .int) 1 21 [va_rf a0, .int x1, .int x2] h (some (Value.int r)) hf k n := by
  refine mz_met (as := [(false, va_rf a0), (false, .int x1), (false, .int x2)]) (plainFor_of_name (by decide)) (mz_c1 (mz_cat_rf _) (mz_c1 rfl (mz_c1 rfl mz_c0))) (Nat.le_of_ble_eq_true rfl) ?_
  intro p e s m args below meth c Y
  exact pf_X6_faultAt_b0 r Y h a0 x1 x2 _ _ hr
theorem dX6_cellAt_0 : decode cX6_cellAt 0 = .ok (.aload_n 0, 1) := by decide +kernel
theorem dX6_cellAt_1 : decode cX6_cellAt 1 = .ok (.iload_n 1, 1) := by decide +kernel
theorem dX6_cellAt_2 : decode cX6_cellAt 2 = .ok (.invokevirtual 64, 3) := by decide +kernel
theorem dX6_cellAt_5 : decode cX6_cellAt 5 = .ok (.astore_n 3, 1) := by decide +kernel
theorem dX6_cellAt_6 : decode cX6_cellAt 6 = .ok (.aload_n 0, 1) := by decide +kernel
theorem dX6_cellAt_7 : decode cX6_cellAt 7 = .ok (.getfield 25, 3) := by decide +kernel
theorem dX6_cellAt_10 : decode cX6_cellAt 10 = .ok (.iconst 2, 1) := by decide +kernel
theorem dX6_cellAt_11 : decode cX6_cellAt 11 = .ok (.if_icmp .ne 7, 3) := by decide +kernel
theorem dX6_cellAt_14 : decode cX6_cellAt 14 = .ok (.iload_n 2, 1) := by decide +kernel
theorem dX6_cellAt_15 : decode cX6_cellAt 15 = .ok (.goto 4, 3) := by decide +kernel
theorem dX6_cellAt_18 : decode cX6_cellAt 18 = .ok (.iload_n 1, 1) := by decide +kernel
theorem dX6_cellAt_19 : decode cX6_cellAt 19 = .ok (.istore 4, 2) := by decide +kernel
theorem dX6_cellAt_21 : decode cX6_cellAt 21 = .ok (.aload_n 3, 1) := by decide +kernel
theorem dX6_cellAt_22 : decode cX6_cellAt 22 = .ok (.ifnull 22, 3) := by decide +kernel
theorem dX6_cellAt_25 : decode cX6_cellAt 25 = .ok (.aload_n 3, 1) := by decide +kernel
theorem dX6_cellAt_26 : decode cX6_cellAt 26 = .ok (.iload 4, 2) := by decide +kernel
theorem dX6_cellAt_28 : decode cX6_cellAt 28 = .ok (.invokevirtual 68, 3) := by decide +kernel
theorem dX6_cellAt_31 : decode cX6_cellAt 31 = .ok (.ifCond .eq 13, 3) := by decide +kernel
theorem dX6_cellAt_34 : decode cX6_cellAt 34 = .ok (.aload_n 3, 1) := by decide +kernel
theorem dX6_cellAt_35 : decode cX6_cellAt 35 = .ok (.getfield 52, 3) := by decide +kernel
theorem dX6_cellAt_38 : decode cX6_cellAt 38 = .ok (.iload 4, 2) := by decide +kernel
theorem dX6_cellAt_40 : decode cX6_cellAt 40 = .ok (.laload, 1) := by decide +kernel
theorem dX6_cellAt_41 : decode cX6_cellAt 41 = .ok (.goto 4, 3) := by decide +kernel
theorem dX6_cellAt_44 : decode cX6_cellAt 44 = .ok (.lconst 0, 1) := by decide +kernel
theorem dX6_cellAt_45 : decode cX6_cellAt 45 = .ok (.lreturn, 1) := by decide +kernel
def fn_X6_cellAt_b19 (h : mz_H) (a3 : (Option Nat)) (s0 : Int32) : mz_Res Int64 :=
  if a3 = none then
    mz_ret 0 h
  else
    mz_chk (mz_is h a3 4) <| mz_call (fn_X5_has h a3 s0) fun v1 h =>
    if v1 = 0 then
      mz_ret 0 h
    else
      mz_op (mz_fR h a3 4 0) fun v2 =>
      mz_op (mz_aJ h v2 s0) fun v3 =>
      mz_ret v3 h
set_option maxHeartbeats 4000000 in
set_option maxRecDepth 100000 in
theorem pf_X6_cellAt_b19 (r : Int64) (Y : mz_Y p g RX6 cX6_cellAt 5 (some .long) "cellAt" (mz_AF h0) s m args meth c) (h : mz_H) (a3 : (Option Nat)) (s0 : Int32) (dc ds : Nat) (hr : fn_X6_cellAt_b19 h a3 s0 = some (r, hf, dc, ds)) : mz_Go l g p e s m args below meth c 1 21 DC DS h0 (some (Value.long r)) hf 5 19 [(3, false, va_rf a3)] [.int s0] h dc ds := by
  unfold fn_X6_cellAt_b19 at hr
  intro H locs cells slots ls hH hS hl hc hs
  have X := Y.1
  refine mz_istore X [(4, false, .int s0), (3, false, va_rf a3)] dX6_cellAt_19 hl (by decide) rfl (fun ls hl => ?_)
  refine mz_aload_n X dX6_cellAt_21 rfl (mz_at hl 1 rfl) ?_
  refine mz_ifnull X 44 dX6_cellAt_22 (by decide) hr (fun hr => ?_) (fun hr => ?_)
  · refine lv_lconst (v := 0) X.1 X.2.1 dX6_cellAt_44 (by decide) ?_
    exact mz_lret Y dX6_cellAt_45 hH hS hc hs hr
  · refine mz_aload_n X dX6_cellAt_25 rfl (mz_at hl 1 rfl) ?_
    refine lv_iload X.1 X.2.1 dX6_cellAt_26 (mz_at hl 0 rfl) ?_
    refine mz_kV Value.int X hH hS hl.1.1 [.int s0] [] hr (ct_X5_has l g h a3 s0) mb_RX6_68 rfl im_X5_has rfl (Nat.le_of_ble_eq_true rfl) ⟨Nat.le_of_ble_eq_true rfl, Nat.le_of_ble_eq_true rfl⟩ hc hs dX6_cellAt_28 rfl (fun v1 h H locs cells slots dc ds hr hH hS hc hs => ?_)
    refine mz_if_eq X 44 dX6_cellAt_31 (by decide) hr (fun hr => ?_) (fun hr => ?_)
    · refine lv_lconst (v := 0) X.1 X.2.1 dX6_cellAt_44 (by decide) ?_
      exact mz_lret Y dX6_cellAt_45 hH hS hc hs hr
    · refine mz_aload_n X dX6_cellAt_34 rfl (mz_at hl 1 rfl) ?_
      refine mz_getR X hH fl_RX6_52 dX6_cellAt_35 hr (fun v2 hr => ?_)
      refine lv_iload X.1 X.2.1 dX6_cellAt_38 (mz_at hl 0 rfl) ?_
      refine mz_lald X hH dX6_cellAt_40 hr (fun v3 hr => ?_)
      refine lv_goto (tgt := 45) X.1 X.2.1 dX6_cellAt_41 (by decide) ?_
      exact mz_lret Y dX6_cellAt_45 hH hS hc hs hr
def fn_X6_cellAt (h : mz_H) (a0 : (Option Nat)) (x1 : Int32) (x2 : Int32) : mz_Res Int64 :=
  mz_chk (mz_is h a0 5) <| mz_call (fn_X6_rowAt h a0 x1) fun v1 h =>
  mz_op (mz_fI h a0 5 2) fun v2 =>
  if v2 = 2 then
    fn_X6_cellAt_b19 h v1 x2
  else
    fn_X6_cellAt_b19 h v1 x1
set_option maxHeartbeats 4000000 in
set_option maxRecDepth 100000 in
theorem pf_X6_cellAt_b0 (r : Int64) (Y : mz_Y p g RX6 cX6_cellAt 5 (some .long) "cellAt" (mz_AF h0) s m args meth c) (h : mz_H) (a0 : (Option Nat)) (x1 : Int32) (x2 : Int32) (dc ds : Nat) (hr : fn_X6_cellAt h a0 x1 x2 = some (r, hf, dc, ds)) : mz_Go l g p e s m args below meth c 1 21 DC DS h0 (some (Value.long r)) hf 5 0 [(0, false, va_rf a0), (1, false, .int x1), (2, false, .int x2)] [] h dc ds := by
  unfold fn_X6_cellAt at hr
  intro H locs cells slots ls hH hS hl hc hs
  have X := Y.1
  refine mz_aload_n X dX6_cellAt_0 rfl (mz_at hl 0 rfl) ?_
  refine lv_iload_n X.1 X.2.1 dX6_cellAt_1 rfl (mz_at hl 1 rfl) ?_
  refine mz_kV va_rf X hH hS hl.1.1 [.int x1] [] hr (ct_X6_rowAt l g h a0 x1) mb_RX6_64 rfl im_X6_rowAt rfl (Nat.le_of_ble_eq_true rfl) ⟨Nat.le_of_ble_eq_true rfl, Nat.le_of_ble_eq_true rfl⟩ hc hs dX6_cellAt_2 rfl (fun v1 h H locs cells slots dc ds hr hH hS hc hs => ?_)
  refine mz_astore_n X [(3, false, va_rf v1), (0, false, va_rf a0), (1, false, .int x1), (2, false, .int x2)] dX6_cellAt_5 rfl hl (by decide) rfl (fun ls hl => ?_)
  refine mz_aload_n X dX6_cellAt_6 rfl (mz_at hl 1 rfl) ?_
  refine mz_getI X hH fl_RX6_25 dX6_cellAt_7 hr (fun v2 hr => ?_)
  refine lv_iconst (v := 2) X.1 X.2.1 dX6_cellAt_10 (by decide) ?_
  refine mz_icmp_ne X 18 dX6_cellAt_11 (by decide) hr (fun hr => ?_) (fun hr => ?_)
  · refine lv_iload_n X.1 X.2.1 dX6_cellAt_18 rfl (mz_at hl 2 rfl) ?_
    exact pf_X6_cellAt_b19 r Y h v1 x1 _ _ hr H locs cells slots ls hH hS (mz_sub hl [0] rfl) hc hs
  · refine lv_iload_n X.1 X.2.1 dX6_cellAt_14 rfl (mz_at hl 3 rfl) ?_
    refine lv_goto (tgt := 19) X.1 X.2.1 dX6_cellAt_15 (by decide) ?_
    exact pf_X6_cellAt_b19 r Y h v1 x2 _ _ hr H locs cells slots ls hH hS (mz_sub hl [0] rfl) hc hs
set_option maxRecDepth 100000 in
theorem ct_X6_cellAt (l : Launch) (g : mz_G) (h : mz_H) (a0 : (Option Nat)) (x1 : Int32) (x2 : Int32) (r : Int64) (hf : mz_H) (k n : Nat) (hr : fn_X6_cellAt h a0 x1 x2 = some (r, hf, k, n)) : mz_C l g yX6_cellAt cX6_cellAt 5 (some .long) 1 21 [va_rf a0, .int x1, .int x2] h (some (Value.long r)) hf k n := by
  refine mz_met (as := [(false, va_rf a0), (false, .int x1), (false, .int x2)]) (plainFor_of_name (by decide)) (mz_c1 (mz_cat_rf _) (mz_c1 rfl (mz_c1 rfl mz_c0))) (Nat.le_of_ble_eq_true rfl) ?_
  intro p e s m args below meth c Y
  exact pf_X6_cellAt_b0 r Y h a0 x1 x2 _ _ hr
theorem dX6_putCell_0 : decode cX6_putCell 0 = .ok (.aload_n 0, 1) := by decide +kernel
theorem dX6_putCell_1 : decode cX6_putCell 1 = .ok (.iload_n 1, 1) := by decide +kernel
theorem dX6_putCell_2 : decode cX6_putCell 2 = .ok (.invokevirtual 64, 3) := by decide +kernel
theorem dX6_putCell_5 : decode cX6_putCell 5 = .ok (.astore 5, 2) := by decide +kernel
theorem dX6_putCell_7 : decode cX6_putCell 7 = .ok (.aload_n 0, 1) := by decide +kernel
theorem dX6_putCell_8 : decode cX6_putCell 8 = .ok (.getfield 25, 3) := by decide +kernel
theorem dX6_putCell_11 : decode cX6_putCell 11 = .ok (.iconst 2, 1) := by decide +kernel
theorem dX6_putCell_12 : decode cX6_putCell 12 = .ok (.if_icmp .ne 7, 3) := by decide +kernel
theorem dX6_putCell_15 : decode cX6_putCell 15 = .ok (.iload_n 2, 1) := by decide +kernel
theorem dX6_putCell_16 : decode cX6_putCell 16 = .ok (.goto 4, 3) := by decide +kernel
theorem dX6_putCell_19 : decode cX6_putCell 19 = .ok (.iload_n 1, 1) := by decide +kernel
theorem dX6_putCell_20 : decode cX6_putCell 20 = .ok (.istore 6, 2) := by decide +kernel
theorem dX6_putCell_22 : decode cX6_putCell 22 = .ok (.aload 5, 2) := by decide +kernel
theorem dX6_putCell_24 : decode cX6_putCell 24 = .ok (.ifnull 22, 3) := by decide +kernel
theorem dX6_putCell_27 : decode cX6_putCell 27 = .ok (.aload 5, 2) := by decide +kernel
theorem dX6_putCell_29 : decode cX6_putCell 29 = .ok (.iload 6, 2) := by decide +kernel
theorem dX6_putCell_31 : decode cX6_putCell 31 = .ok (.invokevirtual 68, 3) := by decide +kernel
theorem dX6_putCell_34 : decode cX6_putCell 34 = .ok (.ifCond .eq 12, 3) := by decide +kernel
theorem dX6_putCell_37 : decode cX6_putCell 37 = .ok (.aload 5, 2) := by decide +kernel
theorem dX6_putCell_39 : decode cX6_putCell 39 = .ok (.getfield 52, 3) := by decide +kernel
theorem dX6_putCell_42 : decode cX6_putCell 42 = .ok (.iload 6, 2) := by decide +kernel
theorem dX6_putCell_44 : decode cX6_putCell 44 = .ok (.lload_n 3, 1) := by decide +kernel
theorem dX6_putCell_45 : decode cX6_putCell 45 = .ok (.lastore, 1) := by decide +kernel
theorem dX6_putCell_46 : decode cX6_putCell 46 = .ok (.return_, 1) := by decide +kernel
def fn_X6_putCell_b20 (h : mz_H) (j3 : Int64) (a5 : (Option Nat)) (s0 : Int32) : mz_Res Unit :=
  if a5 = none then
    mz_ret () h
  else
    mz_chk (mz_is h a5 4) <| mz_call (fn_X5_has h a5 s0) fun v1 h =>
    if v1 = 0 then
      mz_ret () h
    else
      mz_op (mz_fR h a5 4 0) fun v2 =>
      mz_op (mz_sJ h v2 s0 j3) fun h =>
      mz_ret () h
set_option maxHeartbeats 4000000 in
set_option maxRecDepth 100000 in
theorem pf_X6_putCell_b20 (r : Unit) (Y : mz_Y p g RX6 cX6_putCell 7 none "putCell" (mz_AF h0) s m args meth c) (h : mz_H) (j3 : Int64) (a5 : (Option Nat)) (s0 : Int32) (dc ds : Nat) (hr : fn_X6_putCell_b20 h j3 a5 s0 = some (r, hf, dc, ds)) : mz_Go l g p e s m args below meth c 1 21 DC DS h0 none hf 7 20 [(3, true, .long j3), (5, false, va_rf a5)] [.int s0] h dc ds := by
  unfold fn_X6_putCell_b20 at hr
  intro H locs cells slots ls hH hS hl hc hs
  have X := Y.1
  refine mz_istore X [(6, false, .int s0), (3, true, .long j3), (5, false, va_rf a5)] dX6_putCell_20 hl (by decide) rfl (fun ls hl => ?_)
  refine mz_aload X dX6_putCell_22 (mz_at hl 2 rfl) ?_
  refine mz_ifnull X 46 dX6_putCell_24 (by decide) hr (fun hr => ?_) (fun hr => ?_)
  · exact mz_vret Y dX6_putCell_46 hH hS hc hs hr
  · refine mz_aload X dX6_putCell_27 (mz_at hl 2 rfl) ?_
    refine lv_iload X.1 X.2.1 dX6_putCell_29 (mz_at hl 0 rfl) ?_
    refine mz_kV Value.int X hH hS hl.1.1 [.int s0] [] hr (ct_X5_has l g h a5 s0) mb_RX6_68 rfl im_X5_has rfl (Nat.le_of_ble_eq_true rfl) ⟨Nat.le_of_ble_eq_true rfl, Nat.le_of_ble_eq_true rfl⟩ hc hs dX6_putCell_31 rfl (fun v1 h H locs cells slots dc ds hr hH hS hc hs => ?_)
    refine mz_if_eq X 46 dX6_putCell_34 (by decide) hr (fun hr => ?_) (fun hr => ?_)
    · exact mz_vret Y dX6_putCell_46 hH hS hc hs hr
    · refine mz_aload X dX6_putCell_37 (mz_at hl 2 rfl) ?_
      refine mz_getR X hH fl_RX6_52 dX6_putCell_39 hr (fun v2 hr => ?_)
      refine lv_iload X.1 X.2.1 dX6_putCell_42 (mz_at hl 0 rfl) ?_
      refine lv_lload_n X.1 X.2.1 dX6_putCell_44 rfl (mz_at hl 1 rfl) ?_
      refine mz_last X hH hS dX6_putCell_45 hr (fun h H locs hr hH hS => ?_)
      exact mz_vret Y dX6_putCell_46 hH hS hc hs hr
def fn_X6_putCell (h : mz_H) (a0 : (Option Nat)) (x1 : Int32) (x2 : Int32) (j3 : Int64) : mz_Res Unit :=
  mz_chk (mz_is h a0 5) <| mz_call (fn_X6_rowAt h a0 x1) fun v1 h =>
  mz_op (mz_fI h a0 5 2) fun v2 =>
  if v2 = 2 then
    fn_X6_putCell_b20 h j3 v1 x2
  else
    fn_X6_putCell_b20 h j3 v1 x1
set_option maxHeartbeats 4000000 in
set_option maxRecDepth 100000 in
theorem pf_X6_putCell_b0 (r : Unit) (Y : mz_Y p g RX6 cX6_putCell 7 none "putCell" (mz_AF h0) s m args meth c) (h : mz_H) (a0 : (Option Nat)) (x1 : Int32) (x2 : Int32) (j3 : Int64) (dc ds : Nat) (hr : fn_X6_putCell h a0 x1 x2 j3 = some (r, hf, dc, ds)) : mz_Go l g p e s m args below meth c 1 21 DC DS h0 none hf 7 0 [(0, false, va_rf a0), (1, false, .int x1), (2, false, .int x2), (3, true, .long j3)] [] h dc ds := by
  unfold fn_X6_putCell at hr
  intro H locs cells slots ls hH hS hl hc hs
  have X := Y.1
  refine mz_aload_n X dX6_putCell_0 rfl (mz_at hl 0 rfl) ?_
  refine lv_iload_n X.1 X.2.1 dX6_putCell_1 rfl (mz_at hl 1 rfl) ?_
  refine mz_kV va_rf X hH hS hl.1.1 [.int x1] [] hr (ct_X6_rowAt l g h a0 x1) mb_RX6_64 rfl im_X6_rowAt rfl (Nat.le_of_ble_eq_true rfl) ⟨Nat.le_of_ble_eq_true rfl, Nat.le_of_ble_eq_true rfl⟩ hc hs dX6_putCell_2 rfl (fun v1 h H locs cells slots dc ds hr hH hS hc hs => ?_)
  refine mz_astore X [(5, false, va_rf v1), (0, false, va_rf a0), (1, false, .int x1), (2, false, .int x2), (3, true, .long j3)] dX6_putCell_5 hl (by decide) rfl (fun ls hl => ?_)
  refine mz_aload_n X dX6_putCell_7 rfl (mz_at hl 1 rfl) ?_
  refine mz_getI X hH fl_RX6_25 dX6_putCell_8 hr (fun v2 hr => ?_)
  refine lv_iconst (v := 2) X.1 X.2.1 dX6_putCell_11 (by decide) ?_
  refine mz_icmp_ne X 19 dX6_putCell_12 (by decide) hr (fun hr => ?_) (fun hr => ?_)
  · refine lv_iload_n X.1 X.2.1 dX6_putCell_19 rfl (mz_at hl 2 rfl) ?_
    exact pf_X6_putCell_b20 r Y h j3 v1 x1 _ _ hr H locs cells slots ls hH hS (mz_sub hl [4, 0] rfl) hc hs
  · refine lv_iload_n X.1 X.2.1 dX6_putCell_15 rfl (mz_at hl 3 rfl) ?_
    refine lv_goto (tgt := 20) X.1 X.2.1 dX6_putCell_16 (by decide) ?_
    exact pf_X6_putCell_b20 r Y h j3 v1 x2 _ _ hr H locs cells slots ls hH hS (mz_sub hl [4, 0] rfl) hc hs
set_option maxRecDepth 100000 in
theorem ct_X6_putCell (l : Launch) (g : mz_G) (h : mz_H) (a0 : (Option Nat)) (x1 : Int32) (x2 : Int32) (j3 : Int64) (r : Unit) (hf : mz_H) (k n : Nat) (hr : fn_X6_putCell h a0 x1 x2 j3 = some (r, hf, k, n)) : mz_C l g yX6_putCell cX6_putCell 7 none 1 21 [va_rf a0, .int x1, .int x2, .long j3] h none hf k n := by
  refine mz_met (as := [(false, va_rf a0), (false, .int x1), (false, .int x2), (true, .long j3)]) (plainFor_of_name (by decide)) (mz_c1 (mz_cat_rf _) (mz_c1 rfl (mz_c1 rfl (mz_c1 rfl mz_c0)))) (Nat.le_of_ble_eq_true rfl) ?_
  intro p e s m args below meth c Y
  exact pf_X6_putCell_b0 r Y h a0 x1 x2 j3 _ _ hr
theorem dX6_areLike_0 : decode cX6_areLike 0 = .ok (.aload_n 0, 1) := by decide +kernel
theorem dX6_areLike_1 : decode cX6_areLike 1 = .ok (.ifnull 7, 3) := by decide +kernel
theorem dX6_areLike_4 : decode cX6_areLike 4 = .ok (.aload_n 1, 1) := by decide +kernel
theorem dX6_areLike_5 : decode cX6_areLike 5 = .ok (.ifnonnull 17, 3) := by decide +kernel
theorem dX6_areLike_8 : decode cX6_areLike 8 = .ok (.aload_n 0, 1) := by decide +kernel
theorem dX6_areLike_9 : decode cX6_areLike 9 = .ok (.ifnonnull 11, 3) := by decide +kernel
theorem dX6_areLike_12 : decode cX6_areLike 12 = .ok (.aload_n 1, 1) := by decide +kernel
theorem dX6_areLike_13 : decode cX6_areLike 13 = .ok (.ifnonnull 7, 3) := by decide +kernel
theorem dX6_areLike_16 : decode cX6_areLike 16 = .ok (.iconst 1, 1) := by decide +kernel
theorem dX6_areLike_17 : decode cX6_areLike 17 = .ok (.goto 4, 3) := by decide +kernel
theorem dX6_areLike_20 : decode cX6_areLike 20 = .ok (.iconst 0, 1) := by decide +kernel
theorem dX6_areLike_21 : decode cX6_areLike 21 = .ok (.ireturn, 1) := by decide +kernel
theorem dX6_areLike_22 : decode cX6_areLike 22 = .ok (.aload_n 0, 1) := by decide +kernel
theorem dX6_areLike_23 : decode cX6_areLike 23 = .ok (.aload_n 1, 1) := by decide +kernel
theorem dX6_areLike_24 : decode cX6_areLike 24 = .ok (.invokevirtual 76, 3) := by decide +kernel
theorem dX6_areLike_27 : decode cX6_areLike 27 = .ok (.ireturn, 1) := by decide +kernel
def fn_X6_areLike_b8 (h : mz_H) (a0 : (Option Nat)) (a1 : (Option Nat)) : mz_Res Int32 :=
  if a0 = none then
    if a1 = none then
      mz_chk ((1 : Int32) &&& 1 == 1) (mz_ret 1 h)
    else
      mz_chk ((0 : Int32) &&& 1 == 0) (mz_ret 0 h)
  else
    mz_chk ((0 : Int32) &&& 1 == 0) (mz_ret 0 h)
set_option maxHeartbeats 4000000 in
set_option maxRecDepth 100000 in
theorem pf_X6_areLike_b8 (r : Int32) (Y : mz_Y p g RX6 cX6_areLike 2 (some .boolean) "areLike" (mz_AF h0) s m args meth c) (h : mz_H) (a0 : (Option Nat)) (a1 : (Option Nat)) (dc ds : Nat) (hr : fn_X6_areLike_b8 h a0 a1 = some (r, hf, dc, ds)) : mz_Go l g p e s m args below meth c 1 22 DC DS h0 (some (Value.int r)) hf 2 8 [(0, false, va_rf a0), (1, false, va_rf a1)] [] h dc ds := by
  unfold fn_X6_areLike_b8 at hr
  intro H locs cells slots ls hH hS hl hc hs
  have X := Y.1
  refine mz_aload_n X dX6_areLike_8 rfl (mz_at hl 0 rfl) ?_
  refine mz_ifnonnull X 20 dX6_areLike_9 (by decide) hr (fun hr => ?_) (fun hr => ?_)
  · refine lv_iconst (v := 0) X.1 X.2.1 dX6_areLike_20 (by decide) ?_
    exact mz_zret Y dX6_areLike_21 hH hS hc hs hr
  · refine mz_aload_n X dX6_areLike_12 rfl (mz_at hl 1 rfl) ?_
    refine mz_ifnonnull X 20 dX6_areLike_13 (by decide) hr (fun hr => ?_) (fun hr => ?_)
    · refine lv_iconst (v := 0) X.1 X.2.1 dX6_areLike_20 (by decide) ?_
      exact mz_zret Y dX6_areLike_21 hH hS hc hs hr
    · refine lv_iconst (v := 1) X.1 X.2.1 dX6_areLike_16 (by decide) ?_
      refine lv_goto (tgt := 21) X.1 X.2.1 dX6_areLike_17 (by decide) ?_
      exact mz_zret Y dX6_areLike_21 hH hS hc hs hr
def fn_X6_areLike (h : mz_H) (a0 : (Option Nat)) (a1 : (Option Nat)) : mz_Res Int32 :=
  if a0 = none then
    fn_X6_areLike_b8 h a0 a1
  else
    if a1 = none then
      fn_X6_areLike_b8 h a0 a1
    else
      mz_chk (mz_is h a0 4) <| mz_call (fn_X5_isLike h a0 a1) fun v1 h =>
      mz_chk (v1 &&& 1 == v1) (mz_ret v1 h)
set_option maxHeartbeats 4000000 in
set_option maxRecDepth 100000 in
theorem pf_X6_areLike_b0 (r : Int32) (Y : mz_Y p g RX6 cX6_areLike 2 (some .boolean) "areLike" (mz_AF h0) s m args meth c) (h : mz_H) (a0 : (Option Nat)) (a1 : (Option Nat)) (dc ds : Nat) (hr : fn_X6_areLike h a0 a1 = some (r, hf, dc, ds)) : mz_Go l g p e s m args below meth c 1 22 DC DS h0 (some (Value.int r)) hf 2 0 [(0, false, va_rf a0), (1, false, va_rf a1)] [] h dc ds := by
  unfold fn_X6_areLike at hr
  intro H locs cells slots ls hH hS hl hc hs
  have X := Y.1
  refine mz_aload_n X dX6_areLike_0 rfl (mz_at hl 0 rfl) ?_
  refine mz_ifnull X 8 dX6_areLike_1 (by decide) hr (fun hr => ?_) (fun hr => ?_)
  · exact pf_X6_areLike_b8 r Y h a0 a1 _ _ hr H locs cells slots ls hH hS (mz_sub hl [0, 1] rfl) hc hs
  · refine mz_aload_n X dX6_areLike_4 rfl (mz_at hl 1 rfl) ?_
    refine mz_ifnonnull X 22 dX6_areLike_5 (by decide) hr (fun hr => ?_) (fun hr => ?_)
    · refine mz_aload_n X dX6_areLike_22 rfl (mz_at hl 0 rfl) ?_
      refine mz_aload_n X dX6_areLike_23 rfl (mz_at hl 1 rfl) ?_
      refine mz_kV Value.int X hH hS hl.1.1 [va_rf a1] [] hr (ct_X5_isLike l g h a0 a1) mb_RX6_76 rfl im_X5_isLike rfl (Nat.le_of_ble_eq_true rfl) ⟨Nat.le_of_ble_eq_true rfl, Nat.le_of_ble_eq_true rfl⟩ hc hs dX6_areLike_24 rfl (fun v1 h H locs cells slots dc ds hr hH hS hc hs => ?_)
      exact mz_zret Y dX6_areLike_27 hH hS hc hs hr
    · exact pf_X6_areLike_b8 r Y h a0 a1 _ _ hr H locs cells slots ls hH hS (mz_sub hl [0, 1] rfl) hc hs
set_option maxRecDepth 100000 in
theorem ct_X6_areLike (l : Launch) (g : mz_G) (h : mz_H) (a0 : (Option Nat)) (a1 : (Option Nat)) (r : Int32) (hf : mz_H) (k n : Nat) (hr : fn_X6_areLike h a0 a1 = some (r, hf, k, n)) : mz_C l g yX6_areLike cX6_areLike 2 (some .boolean) 1 22 [va_rf a0, va_rf a1] h (some (Value.int r)) hf k n := by
  refine mz_met (as := [(false, va_rf a0), (false, va_rf a1)]) (plainFor_of_name (by decide)) (mz_c1 (mz_cat_rf _) (mz_c1 (mz_cat_rf _) mz_c0)) (Nat.le_of_ble_eq_true rfl) ?_
  intro p e s m args below meth c Y
  exact pf_X6_areLike_b0 r Y h a0 a1 _ _ hr
theorem dX6_isLike_0 : decode cX6_isLike 0 = .ok (.aload_n 0, 1) := by decide +kernel
theorem dX6_isLike_1 : decode cX6_isLike 1 = .ok (.getfield 15, 3) := by decide +kernel
theorem dX6_isLike_4 : decode cX6_isLike 4 = .ok (.aload_n 1, 1) := by decide +kernel
theorem dX6_isLike_5 : decode cX6_isLike 5 = .ok (.getfield 15, 3) := by decide +kernel
theorem dX6_isLike_8 : decode cX6_isLike 8 = .ok (.if_icmp .ne 25, 3) := by decide +kernel
theorem dX6_isLike_11 : decode cX6_isLike 11 = .ok (.aload_n 0, 1) := by decide +kernel
theorem dX6_isLike_12 : decode cX6_isLike 12 = .ok (.getfield 21, 3) := by decide +kernel
theorem dX6_isLike_15 : decode cX6_isLike 15 = .ok (.aload_n 1, 1) := by decide +kernel
theorem dX6_isLike_16 : decode cX6_isLike 16 = .ok (.getfield 21, 3) := by decide +kernel
theorem dX6_isLike_19 : decode cX6_isLike 19 = .ok (.if_icmp .ne 14, 3) := by decide +kernel
theorem dX6_isLike_22 : decode cX6_isLike 22 = .ok (.aload_n 0, 1) := by decide +kernel
theorem dX6_isLike_23 : decode cX6_isLike 23 = .ok (.getfield 25, 3) := by decide +kernel
theorem dX6_isLike_26 : decode cX6_isLike 26 = .ok (.aload_n 1, 1) := by decide +kernel
theorem dX6_isLike_27 : decode cX6_isLike 27 = .ok (.getfield 25, 3) := by decide +kernel
theorem dX6_isLike_30 : decode cX6_isLike 30 = .ok (.if_icmp .eq 5, 3) := by decide +kernel
theorem dX6_isLike_33 : decode cX6_isLike 33 = .ok (.iconst 0, 1) := by decide +kernel
theorem dX6_isLike_34 : decode cX6_isLike 34 = .ok (.ireturn, 1) := by decide +kernel
theorem dX6_isLike_35 : decode cX6_isLike 35 = .ok (.aload_n 0, 1) := by decide +kernel
theorem dX6_isLike_36 : decode cX6_isLike 36 = .ok (.invokevirtual 56, 3) := by decide +kernel
theorem dX6_isLike_39 : decode cX6_isLike 39 = .ok (.ifCond .ne 10, 3) := by decide +kernel
theorem dX6_isLike_42 : decode cX6_isLike 42 = .ok (.aload_n 1, 1) := by decide +kernel
theorem dX6_isLike_43 : decode cX6_isLike 43 = .ok (.invokevirtual 56, 3) := by decide +kernel
theorem dX6_isLike_46 : decode cX6_isLike 46 = .ok (.ifCond .eq 23, 3) := by decide +kernel
theorem dX6_isLike_49 : decode cX6_isLike 49 = .ok (.aload_n 0, 1) := by decide +kernel
theorem dX6_isLike_50 : decode cX6_isLike 50 = .ok (.invokevirtual 56, 3) := by decide +kernel
theorem dX6_isLike_53 : decode cX6_isLike 53 = .ok (.ifCond .eq 14, 3) := by decide +kernel
theorem dX6_isLike_56 : decode cX6_isLike 56 = .ok (.aload_n 1, 1) := by decide +kernel
theorem dX6_isLike_57 : decode cX6_isLike 57 = .ok (.invokevirtual 56, 3) := by decide +kernel
theorem dX6_isLike_60 : decode cX6_isLike 60 = .ok (.ifCond .eq 7, 3) := by decide +kernel
theorem dX6_isLike_63 : decode cX6_isLike 63 = .ok (.iconst 1, 1) := by decide +kernel
theorem dX6_isLike_64 : decode cX6_isLike 64 = .ok (.goto 4, 3) := by decide +kernel
theorem dX6_isLike_67 : decode cX6_isLike 67 = .ok (.iconst 0, 1) := by decide +kernel
theorem dX6_isLike_68 : decode cX6_isLike 68 = .ok (.ireturn, 1) := by decide +kernel
theorem dX6_isLike_69 : decode cX6_isLike 69 = .ok (.aload_n 0, 1) := by decide +kernel
theorem dX6_isLike_70 : decode cX6_isLike 70 = .ok (.invokevirtual 60, 3) := by decide +kernel
theorem dX6_isLike_73 : decode cX6_isLike 73 = .ok (.aload_n 1, 1) := by decide +kernel
theorem dX6_isLike_74 : decode cX6_isLike 74 = .ok (.invokevirtual 60, 3) := by decide +kernel
theorem dX6_isLike_77 : decode cX6_isLike 77 = .ok (.if_icmp .eq 5, 3) := by decide +kernel
theorem dX6_isLike_80 : decode cX6_isLike 80 = .ok (.iconst 0, 1) := by decide +kernel
theorem dX6_isLike_81 : decode cX6_isLike 81 = .ok (.ireturn, 1) := by decide +kernel
theorem dX6_isLike_82 : decode cX6_isLike 82 = .ok (.aload_n 0, 1) := by decide +kernel
theorem dX6_isLike_83 : decode cX6_isLike 83 = .ok (.getfield 25, 3) := by decide +kernel
theorem dX6_isLike_86 : decode cX6_isLike 86 = .ok (.iconst 2, 1) := by decide +kernel
theorem dX6_isLike_87 : decode cX6_isLike 87 = .ok (.if_icmp .ne 10, 3) := by decide +kernel
theorem dX6_isLike_90 : decode cX6_isLike 90 = .ok (.aload_n 0, 1) := by decide +kernel
theorem dX6_isLike_91 : decode cX6_isLike 91 = .ok (.invokevirtual 60, 3) := by decide +kernel
theorem dX6_isLike_94 : decode cX6_isLike 94 = .ok (.goto 4, 3) := by decide +kernel
theorem dX6_isLike_97 : decode cX6_isLike 97 = .ok (.iconst 1, 1) := by decide +kernel
theorem dX6_isLike_98 : decode cX6_isLike 98 = .ok (.istore_n 2, 1) := by decide +kernel
theorem dX6_isLike_99 : decode cX6_isLike 99 = .ok (.iconst 0, 1) := by decide +kernel
theorem dX6_isLike_100 : decode cX6_isLike 100 = .ok (.istore_n 3, 1) := by decide +kernel
theorem dX6_isLike_101 : decode cX6_isLike 101 = .ok (.iload_n 3, 1) := by decide +kernel
theorem dX6_isLike_102 : decode cX6_isLike 102 = .ok (.iload_n 2, 1) := by decide +kernel
theorem dX6_isLike_103 : decode cX6_isLike 103 = .ok (.if_icmp .ge 27, 3) := by decide +kernel
theorem dX6_isLike_106 : decode cX6_isLike 106 = .ok (.aload_n 0, 1) := by decide +kernel
theorem dX6_isLike_107 : decode cX6_isLike 107 = .ok (.iload_n 3, 1) := by decide +kernel
theorem dX6_isLike_108 : decode cX6_isLike 108 = .ok (.invokevirtual 64, 3) := by decide +kernel
theorem dX6_isLike_111 : decode cX6_isLike 111 = .ok (.aload_n 1, 1) := by decide +kernel
theorem dX6_isLike_112 : decode cX6_isLike 112 = .ok (.iload_n 3, 1) := by decide +kernel
theorem dX6_isLike_113 : decode cX6_isLike 113 = .ok (.invokevirtual 64, 3) := by decide +kernel
theorem dX6_isLike_116 : decode cX6_isLike 116 = .ok (.invokestatic 72, 3) := by decide +kernel
theorem dX6_isLike_119 : decode cX6_isLike 119 = .ok (.ifCond .ne 5, 3) := by decide +kernel
theorem dX6_isLike_122 : decode cX6_isLike 122 = .ok (.iconst 0, 1) := by decide +kernel
theorem dX6_isLike_123 : decode cX6_isLike 123 = .ok (.ireturn, 1) := by decide +kernel
theorem dX6_isLike_124 : decode cX6_isLike 124 = .ok (.iinc 3 1, 3) := by decide +kernel
theorem dX6_isLike_127 : decode cX6_isLike 127 = .ok (.goto (-26), 3) := by decide +kernel
theorem dX6_isLike_130 : decode cX6_isLike 130 = .ok (.iconst 1, 1) := by decide +kernel
theorem dX6_isLike_131 : decode cX6_isLike 131 = .ok (.ireturn, 1) := by decide +kernel
def fn_X6_isLike_b101 : Nat → mz_H → (Option Nat) → (Option Nat) → Int32 → Int32 → mz_Res Int32
  | 0, _, _, _, _, _ => none
  | n + 1, h, a0, a1, x2, x3 =>
    if x2 ≤ x3 then
      mz_chk ((1 : Int32) &&& 1 == 1) (mz_ret 1 h)
    else
      mz_chk (mz_is h a0 5) <| mz_call (fn_X6_rowAt h a0 x3) fun v1 h =>
      mz_chk (mz_is h a1 5) <| mz_call (fn_X6_rowAt h a1 x3) fun v2 h =>
      mz_call (fn_X6_areLike h v1 v2) fun v3 h =>
      if v3 = 0 then
        mz_chk ((0 : Int32) &&& 1 == 0) (mz_ret 0 h)
      else
        mz_op (some (x3 + 1)) fun v4 =>
        fn_X6_isLike_b101 n h a0 a1 x2 v4
set_option maxHeartbeats 4000000 in
set_option maxRecDepth 100000 in
theorem pf_X6_isLike_b101 (r : Int32) (Y : mz_Y p g RX6 cX6_isLike 4 (some .boolean) "isLike" (mz_AF h0) s m args meth c) : ∀ (n : Nat) (h : mz_H) (a0 : (Option Nat)) (a1 : (Option Nat)) (x2 : Int32) (x3 : Int32) (dc ds : Nat), fn_X6_isLike_b101 n h a0 a1 x2 x3 = some (r, hf, dc, ds) → mz_Go l g p e s m args below meth c 2 43 DC DS h0 (some (Value.int r)) hf 4 101 [(0, false, va_rf a0), (1, false, va_rf a1), (2, false, .int x2), (3, false, .int x3)] [] h dc ds := by
  have X := Y.1
  intro n
  induction n with
  | zero => intro h a0 a1 x2 x3 dc ds hr; simp [fn_X6_isLike_b101] at hr
  | succ n ih =>
    intro h a0 a1 x2 x3 dc ds hr
    rw [fn_X6_isLike_b101] at hr
    intro H locs cells slots ls hH hS hl hc hs
    refine lv_iload_n X.1 X.2.1 dX6_isLike_101 rfl (mz_at hl 3 rfl) ?_
    refine lv_iload_n X.1 X.2.1 dX6_isLike_102 rfl (mz_at hl 2 rfl) ?_
    refine mz_icmp_ge X 130 dX6_isLike_103 (by decide) hr (fun hr => ?_) (fun hr => ?_)
    · refine lv_iconst (v := 1) X.1 X.2.1 dX6_isLike_130 (by decide) ?_
      exact mz_zret Y dX6_isLike_131 hH hS hc hs hr
    · refine mz_aload_n X dX6_isLike_106 rfl (mz_at hl 0 rfl) ?_
      refine lv_iload_n X.1 X.2.1 dX6_isLike_107 rfl (mz_at hl 3 rfl) ?_
      refine mz_kV va_rf X hH hS hl.1.1 [.int x3] [] hr (ct_X6_rowAt l g h a0 x3) mb_RX6_64 rfl im_X6_rowAt rfl (Nat.le_of_ble_eq_true rfl) ⟨Nat.le_of_ble_eq_true rfl, Nat.le_of_ble_eq_true rfl⟩ hc hs dX6_isLike_108 rfl (fun v1 h H locs cells slots dc ds hr hH hS hc hs => ?_)
      refine mz_aload_n X dX6_isLike_111 rfl (mz_at hl 1 rfl) ?_
      refine lv_iload_n X.1 X.2.1 dX6_isLike_112 rfl (mz_at hl 3 rfl) ?_
      refine mz_kV va_rf X hH hS hl.1.1 [.int x3] [va_rf v1] hr (ct_X6_rowAt l g h a1 x3) mb_RX6_64 rfl im_X6_rowAt rfl (Nat.le_of_ble_eq_true rfl) ⟨Nat.le_of_ble_eq_true rfl, Nat.le_of_ble_eq_true rfl⟩ hc hs dX6_isLike_113 rfl (fun v2 h H locs cells slots dc ds hr hH hS hc hs => ?_)
      refine mz_kS Value.int X hH hS hl.1.1 [va_rf v1, va_rf v2] [] hr (ct_X6_areLike l g h v1 v2) mb_RX6_72 im_X6_areLike rfl (Nat.le_of_ble_eq_true rfl) ⟨Nat.le_of_ble_eq_true rfl, Nat.le_of_ble_eq_true rfl⟩ hc hs dX6_isLike_116 rfl (fun v3 h H locs cells slots dc ds hr hH hS hc hs => ?_)
      refine mz_if_ne X 124 dX6_isLike_119 (by decide) hr (fun hr => ?_) (fun hr => ?_)
      · obtain ⟨v4, hv4, hr⟩ := mz_op_some hr
        have hv4 := Option.some.inj hv4
        refine mz_iinc (k := 3) X [(3, false, .int v4), (0, false, va_rf a0), (1, false, va_rf a1), (2, false, .int x2)] v4 dX6_isLike_124 hl rfl hv4 (by decide) rfl (fun ls hl => ?_)
        refine lv_goto (tgt := 101) X.1 X.2.1 dX6_isLike_127 (by decide) ?_
        exact ih h a0 a1 x2 v4 _ _ hr H locs cells slots ls hH hS (mz_sub hl [1, 2, 3, 0] rfl) hc hs
      · refine lv_iconst (v := 0) X.1 X.2.1 dX6_isLike_122 (by decide) ?_
        exact mz_zret Y dX6_isLike_123 hH hS hc hs hr
def fn_X6_isLike_b98 (h : mz_H) (a0 : (Option Nat)) (a1 : (Option Nat)) (s0 : Int32) : mz_Res Int32 :=
  fn_X6_isLike_b101 1001 h a0 a1 s0 0
set_option maxHeartbeats 4000000 in
set_option maxRecDepth 100000 in
theorem pf_X6_isLike_b98 (r : Int32) (Y : mz_Y p g RX6 cX6_isLike 4 (some .boolean) "isLike" (mz_AF h0) s m args meth c) (h : mz_H) (a0 : (Option Nat)) (a1 : (Option Nat)) (s0 : Int32) (dc ds : Nat) (hr : fn_X6_isLike_b98 h a0 a1 s0 = some (r, hf, dc, ds)) : mz_Go l g p e s m args below meth c 2 43 DC DS h0 (some (Value.int r)) hf 4 98 [(0, false, va_rf a0), (1, false, va_rf a1)] [.int s0] h dc ds := by
  unfold fn_X6_isLike_b98 at hr
  intro H locs cells slots ls hH hS hl hc hs
  have X := Y.1
  refine mz_istore_n X [(2, false, .int s0), (0, false, va_rf a0), (1, false, va_rf a1)] dX6_isLike_98 rfl hl (by decide) rfl (fun ls hl => ?_)
  refine lv_iconst (v := 0) X.1 X.2.1 dX6_isLike_99 (by decide) ?_
  refine mz_istore_n X [(3, false, .int 0), (2, false, .int s0), (0, false, va_rf a0), (1, false, va_rf a1)] dX6_isLike_100 rfl hl (by decide) rfl (fun ls hl => ?_)
  exact pf_X6_isLike_b101 r Y 1001 h a0 a1 s0 0 _ _ hr H locs cells slots ls hH hS (mz_sub hl [2, 3, 1, 0] rfl) hc hs
def fn_X6_isLike_b49 (h : mz_H) (a0 : (Option Nat)) (a1 : (Option Nat)) : mz_Res Int32 :=
  mz_chk (mz_is h a0 5) <| mz_call (fn_X6_hasNothing h a0) fun v1 h =>
  if v1 = 0 then
    mz_chk ((0 : Int32) &&& 1 == 0) (mz_ret 0 h)
  else
    mz_chk (mz_is h a1 5) <| mz_call (fn_X6_hasNothing h a1) fun v2 h =>
    if v2 = 0 then
      mz_chk ((0 : Int32) &&& 1 == 0) (mz_ret 0 h)
    else
      mz_chk ((1 : Int32) &&& 1 == 1) (mz_ret 1 h)
set_option maxHeartbeats 4000000 in
set_option maxRecDepth 100000 in
theorem pf_X6_isLike_b49 (r : Int32) (Y : mz_Y p g RX6 cX6_isLike 4 (some .boolean) "isLike" (mz_AF h0) s m args meth c) (h : mz_H) (a0 : (Option Nat)) (a1 : (Option Nat)) (dc ds : Nat) (hr : fn_X6_isLike_b49 h a0 a1 = some (r, hf, dc, ds)) : mz_Go l g p e s m args below meth c 2 43 DC DS h0 (some (Value.int r)) hf 4 49 [(0, false, va_rf a0), (1, false, va_rf a1)] [] h dc ds := by
  unfold fn_X6_isLike_b49 at hr
  intro H locs cells slots ls hH hS hl hc hs
  have X := Y.1
  refine mz_aload_n X dX6_isLike_49 rfl (mz_at hl 0 rfl) ?_
  refine mz_kV Value.int X hH hS hl.1.1 [] [] hr (ct_X6_hasNothing l g h a0) mb_RX6_56 rfl im_X6_hasNothing rfl (Nat.le_of_ble_eq_true rfl) ⟨Nat.le_of_ble_eq_true rfl, Nat.le_of_ble_eq_true rfl⟩ hc hs dX6_isLike_50 rfl (fun v1 h H locs cells slots dc ds hr hH hS hc hs => ?_)
  refine mz_if_eq X 67 dX6_isLike_53 (by decide) hr (fun hr => ?_) (fun hr => ?_)
  · refine lv_iconst (v := 0) X.1 X.2.1 dX6_isLike_67 (by decide) ?_
    exact mz_zret Y dX6_isLike_68 hH hS hc hs hr
  · refine mz_aload_n X dX6_isLike_56 rfl (mz_at hl 1 rfl) ?_
    refine mz_kV Value.int X hH hS hl.1.1 [] [] hr (ct_X6_hasNothing l g h a1) mb_RX6_56 rfl im_X6_hasNothing rfl (Nat.le_of_ble_eq_true rfl) ⟨Nat.le_of_ble_eq_true rfl, Nat.le_of_ble_eq_true rfl⟩ hc hs dX6_isLike_57 rfl (fun v2 h H locs cells slots dc ds hr hH hS hc hs => ?_)
    refine mz_if_eq X 67 dX6_isLike_60 (by decide) hr (fun hr => ?_) (fun hr => ?_)
    · refine lv_iconst (v := 0) X.1 X.2.1 dX6_isLike_67 (by decide) ?_
      exact mz_zret Y dX6_isLike_68 hH hS hc hs hr
    · refine lv_iconst (v := 1) X.1 X.2.1 dX6_isLike_63 (by decide) ?_
      refine lv_goto (tgt := 68) X.1 X.2.1 dX6_isLike_64 (by decide) ?_
      exact mz_zret Y dX6_isLike_68 hH hS hc hs hr
def fn_X6_isLike (h : mz_H) (a0 : (Option Nat)) (a1 : (Option Nat)) : mz_Res Int32 :=
  mz_op (mz_fI h a0 5 0) fun v1 =>
  mz_op (mz_fI h a1 5 0) fun v2 =>
  if v1 = v2 then
    mz_op (mz_fI h a0 5 1) fun v3 =>
    mz_op (mz_fI h a1 5 1) fun v4 =>
    if v3 = v4 then
      mz_op (mz_fI h a0 5 2) fun v5 =>
      mz_op (mz_fI h a1 5 2) fun v6 =>
      if v5 = v6 then
        mz_chk (mz_is h a0 5) <| mz_call (fn_X6_hasNothing h a0) fun v7 h =>
        if v7 = 0 then
          mz_chk (mz_is h a1 5) <| mz_call (fn_X6_hasNothing h a1) fun v8 h =>
          if v8 = 0 then
            mz_chk (mz_is h a0 5) <| mz_call (fn_X6_length h a0) fun v9 h =>
            mz_chk (mz_is h a1 5) <| mz_call (fn_X6_length h a1) fun v10 h =>
            if v9 = v10 then
              mz_op (mz_fI h a0 5 2) fun v11 =>
              if v11 = 2 then
                mz_chk (mz_is h a0 5) <| mz_call (fn_X6_length h a0) fun v12 h =>
                fn_X6_isLike_b98 h a0 a1 v12
              else
                fn_X6_isLike_b98 h a0 a1 1
            else
              mz_chk ((0 : Int32) &&& 1 == 0) (mz_ret 0 h)
          else
            fn_X6_isLike_b49 h a0 a1
        else
          fn_X6_isLike_b49 h a0 a1
      else
        mz_chk ((0 : Int32) &&& 1 == 0) (mz_ret 0 h)
    else
      mz_chk ((0 : Int32) &&& 1 == 0) (mz_ret 0 h)
  else
    mz_chk ((0 : Int32) &&& 1 == 0) (mz_ret 0 h)
set_option maxHeartbeats 4000000 in
set_option maxRecDepth 100000 in
theorem pf_X6_isLike_b0 (r : Int32) (Y : mz_Y p g RX6 cX6_isLike 4 (some .boolean) "isLike" (mz_AF h0) s m args meth c) (h : mz_H) (a0 : (Option Nat)) (a1 : (Option Nat)) (dc ds : Nat) (hr : fn_X6_isLike h a0 a1 = some (r, hf, dc, ds)) : mz_Go l g p e s m args below meth c 2 43 DC DS h0 (some (Value.int r)) hf 4 0 [(0, false, va_rf a0), (1, false, va_rf a1)] [] h dc ds := by
  unfold fn_X6_isLike at hr
  intro H locs cells slots ls hH hS hl hc hs
  have X := Y.1
  refine mz_aload_n X dX6_isLike_0 rfl (mz_at hl 0 rfl) ?_
  refine mz_getI X hH fl_RX6_15 dX6_isLike_1 hr (fun v1 hr => ?_)
  refine mz_aload_n X dX6_isLike_4 rfl (mz_at hl 1 rfl) ?_
  refine mz_getI X hH fl_RX6_15 dX6_isLike_5 hr (fun v2 hr => ?_)
  refine mz_icmp_ne X 33 dX6_isLike_8 (by decide) hr (fun hr => ?_) (fun hr => ?_)
  · refine lv_iconst (v := 0) X.1 X.2.1 dX6_isLike_33 (by decide) ?_
    exact mz_zret Y dX6_isLike_34 hH hS hc hs hr
  · refine mz_aload_n X dX6_isLike_11 rfl (mz_at hl 0 rfl) ?_
    refine mz_getI X hH fl_RX6_21 dX6_isLike_12 hr (fun v3 hr => ?_)
    refine mz_aload_n X dX6_isLike_15 rfl (mz_at hl 1 rfl) ?_
    refine mz_getI X hH fl_RX6_21 dX6_isLike_16 hr (fun v4 hr => ?_)
    refine mz_icmp_ne X 33 dX6_isLike_19 (by decide) hr (fun hr => ?_) (fun hr => ?_)
    · refine lv_iconst (v := 0) X.1 X.2.1 dX6_isLike_33 (by decide) ?_
      exact mz_zret Y dX6_isLike_34 hH hS hc hs hr
    · refine mz_aload_n X dX6_isLike_22 rfl (mz_at hl 0 rfl) ?_
      refine mz_getI X hH fl_RX6_25 dX6_isLike_23 hr (fun v5 hr => ?_)
      refine mz_aload_n X dX6_isLike_26 rfl (mz_at hl 1 rfl) ?_
      refine mz_getI X hH fl_RX6_25 dX6_isLike_27 hr (fun v6 hr => ?_)
      refine mz_icmp_eq X 35 dX6_isLike_30 (by decide) hr (fun hr => ?_) (fun hr => ?_)
      · refine mz_aload_n X dX6_isLike_35 rfl (mz_at hl 0 rfl) ?_
        refine mz_kV Value.int X hH hS hl.1.1 [] [] hr (ct_X6_hasNothing l g h a0) mb_RX6_56 rfl im_X6_hasNothing rfl (Nat.le_of_ble_eq_true rfl) ⟨Nat.le_of_ble_eq_true rfl, Nat.le_of_ble_eq_true rfl⟩ hc hs dX6_isLike_36 rfl (fun v7 h H locs cells slots dc ds hr hH hS hc hs => ?_)
        refine mz_if_ne X 49 dX6_isLike_39 (by decide) hr (fun hr => ?_) (fun hr => ?_)
        · exact pf_X6_isLike_b49 r Y h a0 a1 _ _ hr H locs cells slots ls hH hS (mz_sub hl [0, 1] rfl) hc hs
        · refine mz_aload_n X dX6_isLike_42 rfl (mz_at hl 1 rfl) ?_
          refine mz_kV Value.int X hH hS hl.1.1 [] [] hr (ct_X6_hasNothing l g h a1) mb_RX6_56 rfl im_X6_hasNothing rfl (Nat.le_of_ble_eq_true rfl) ⟨Nat.le_of_ble_eq_true rfl, Nat.le_of_ble_eq_true rfl⟩ hc hs dX6_isLike_43 rfl (fun v8 h H locs cells slots dc ds hr hH hS hc hs => ?_)
          refine mz_if_eq X 69 dX6_isLike_46 (by decide) hr (fun hr => ?_) (fun hr => ?_)
          · refine mz_aload_n X dX6_isLike_69 rfl (mz_at hl 0 rfl) ?_
            refine mz_kV Value.int X hH hS hl.1.1 [] [] hr (ct_X6_length l g h a0) mb_RX6_60 rfl im_X6_length rfl (Nat.le_of_ble_eq_true rfl) ⟨Nat.le_of_ble_eq_true rfl, Nat.le_of_ble_eq_true rfl⟩ hc hs dX6_isLike_70 rfl (fun v9 h H locs cells slots dc ds hr hH hS hc hs => ?_)
            refine mz_aload_n X dX6_isLike_73 rfl (mz_at hl 1 rfl) ?_
            refine mz_kV Value.int X hH hS hl.1.1 [] [.int v9] hr (ct_X6_length l g h a1) mb_RX6_60 rfl im_X6_length rfl (Nat.le_of_ble_eq_true rfl) ⟨Nat.le_of_ble_eq_true rfl, Nat.le_of_ble_eq_true rfl⟩ hc hs dX6_isLike_74 rfl (fun v10 h H locs cells slots dc ds hr hH hS hc hs => ?_)
            refine mz_icmp_eq X 82 dX6_isLike_77 (by decide) hr (fun hr => ?_) (fun hr => ?_)
            · refine mz_aload_n X dX6_isLike_82 rfl (mz_at hl 0 rfl) ?_
              refine mz_getI X hH fl_RX6_25 dX6_isLike_83 hr (fun v11 hr => ?_)
              refine lv_iconst (v := 2) X.1 X.2.1 dX6_isLike_86 (by decide) ?_
              refine mz_icmp_ne X 97 dX6_isLike_87 (by decide) hr (fun hr => ?_) (fun hr => ?_)
              · refine lv_iconst (v := 1) X.1 X.2.1 dX6_isLike_97 (by decide) ?_
                exact pf_X6_isLike_b98 r Y h a0 a1 1 _ _ hr H locs cells slots ls hH hS (mz_sub hl [0, 1] rfl) hc hs
              · refine mz_aload_n X dX6_isLike_90 rfl (mz_at hl 0 rfl) ?_
                refine mz_kV Value.int X hH hS hl.1.1 [] [] hr (ct_X6_length l g h a0) mb_RX6_60 rfl im_X6_length rfl (Nat.le_of_ble_eq_true rfl) ⟨Nat.le_of_ble_eq_true rfl, Nat.le_of_ble_eq_true rfl⟩ hc hs dX6_isLike_91 rfl (fun v12 h H locs cells slots dc ds hr hH hS hc hs => ?_)
                refine lv_goto (tgt := 98) X.1 X.2.1 dX6_isLike_94 (by decide) ?_
                exact pf_X6_isLike_b98 r Y h a0 a1 v12 _ _ hr H locs cells slots ls hH hS (mz_sub hl [0, 1] rfl) hc hs
            · refine lv_iconst (v := 0) X.1 X.2.1 dX6_isLike_80 (by decide) ?_
              exact mz_zret Y dX6_isLike_81 hH hS hc hs hr
          · exact pf_X6_isLike_b49 r Y h a0 a1 _ _ hr H locs cells slots ls hH hS (mz_sub hl [0, 1] rfl) hc hs
      · refine lv_iconst (v := 0) X.1 X.2.1 dX6_isLike_33 (by decide) ?_
        exact mz_zret Y dX6_isLike_34 hH hS hc hs hr
set_option maxRecDepth 100000 in
theorem ct_X6_isLike (l : Launch) (g : mz_G) (h : mz_H) (a0 : (Option Nat)) (a1 : (Option Nat)) (r : Int32) (hf : mz_H) (k n : Nat) (hr : fn_X6_isLike h a0 a1 = some (r, hf, k, n)) : mz_C l g yX6_isLike cX6_isLike 4 (some .boolean) 2 43 [va_rf a0, va_rf a1] h (some (Value.int r)) hf k n := by
  refine mz_met (as := [(false, va_rf a0), (false, va_rf a1)]) (plainFor_of_name (by decide)) (mz_c1 (mz_cat_rf _) (mz_c1 (mz_cat_rf _) mz_c0)) (Nat.le_of_ble_eq_true rfl) ?_
  intro p e s m args below meth c Y
  exact pf_X6_isLike_b0 r Y h a0 a1 _ _ hr
theorem dX7_init_0 : decode cX7_init 0 = .ok (.aload_n 0, 1) := by decide +kernel
theorem dX7_init_1 : decode cX7_init 1 = .ok (.invokespecial 3, 3) := by decide +kernel
theorem dX7_init_4 : decode cX7_init 4 = .ok (.aload_n 0, 1) := by decide +kernel
theorem dX7_init_5 : decode cX7_init 5 = .ok (.bipush 31, 2) := by decide +kernel
theorem dX7_init_7 : decode cX7_init 7 = .ok (.anewarray 9, 3) := by decide +kernel
theorem dX7_init_10 : decode cX7_init 10 = .ok (.putfield 11, 3) := by decide +kernel
theorem dX7_init_13 : decode cX7_init 13 = .ok (.aload_n 0, 1) := by decide +kernel
theorem dX7_init_14 : decode cX7_init 14 = .ok (.bipush 31, 2) := by decide +kernel
theorem dX7_init_16 : decode cX7_init 16 = .ok (.anewarray 9, 3) := by decide +kernel
theorem dX7_init_19 : decode cX7_init 19 = .ok (.putfield 17, 3) := by decide +kernel
theorem dX7_init_22 : decode cX7_init 22 = .ok (.aload_n 0, 1) := by decide +kernel
theorem dX7_init_23 : decode cX7_init 23 = .ok (.bipush (-9), 2) := by decide +kernel
theorem dX7_init_25 : decode cX7_init 25 = .ok (.putfield 20, 3) := by decide +kernel
theorem dX7_init_28 : decode cX7_init 28 = .ok (.aload_n 0, 1) := by decide +kernel
theorem dX7_init_29 : decode cX7_init 29 = .ok (.bipush (-9), 2) := by decide +kernel
theorem dX7_init_31 : decode cX7_init 31 = .ok (.putfield 24, 3) := by decide +kernel
theorem dX7_init_34 : decode cX7_init 34 = .ok (.aload_n 0, 1) := by decide +kernel
theorem dX7_init_35 : decode cX7_init 35 = .ok (.bipush (-9), 2) := by decide +kernel
theorem dX7_init_37 : decode cX7_init 37 = .ok (.putfield 27, 3) := by decide +kernel
theorem dX7_init_40 : decode cX7_init 40 = .ok (.iconst 0, 1) := by decide +kernel
theorem dX7_init_41 : decode cX7_init 41 = .ok (.istore_n 1, 1) := by decide +kernel
theorem dX7_init_42 : decode cX7_init 42 = .ok (.iload_n 1, 1) := by decide +kernel
theorem dX7_init_43 : decode cX7_init 43 = .ok (.bipush 31, 2) := by decide +kernel
theorem dX7_init_45 : decode cX7_init 45 = .ok (.if_icmp .ge 23, 3) := by decide +kernel
theorem dX7_init_48 : decode cX7_init 48 = .ok (.aload_n 0, 1) := by decide +kernel
theorem dX7_init_49 : decode cX7_init 49 = .ok (.getfield 11, 3) := by decide +kernel
theorem dX7_init_52 : decode cX7_init 52 = .ok (.iload_n 1, 1) := by decide +kernel
theorem dX7_init_53 : decode cX7_init 53 = .ok (.new 9, 3) := by decide +kernel
theorem dX7_init_56 : decode cX7_init 56 = .ok (.dup, 1) := by decide +kernel
theorem dX7_init_57 : decode cX7_init 57 = .ok (.iload_n 1, 1) := by decide +kernel
theorem dX7_init_58 : decode cX7_init 58 = .ok (.invokespecial 30, 3) := by decide +kernel
theorem dX7_init_61 : decode cX7_init 61 = .ok (.aastore, 1) := by decide +kernel
theorem dX7_init_62 : decode cX7_init 62 = .ok (.iinc 1 1, 3) := by decide +kernel
theorem dX7_init_65 : decode cX7_init 65 = .ok (.goto (-23), 3) := by decide +kernel
theorem dX7_init_68 : decode cX7_init 68 = .ok (.return_, 1) := by decide +kernel
def fn_X7_init_b42 : Nat → mz_H → (Option Nat) → Int32 → mz_Res Unit
  | 0, _, _, _ => none
  | n + 1, h, a0, x1 =>
    if 31 ≤ x1 then
      mz_ret () h
    else
      mz_op (mz_fR h a0 6 0) fun v1 =>
      mz_oN h 1 8 [.int 0, .int 0, .int 0, .int 0, .int 0, .int 0, .int 0, .int 0] fun v2 h =>
      mz_chk (mz_is h v2 1) <| mz_call (fn_X1_init h v2 x1) fun _ h =>
      mz_op (mz_sR h v1 11 x1 v2) fun h =>
      mz_op (some (x1 + 1)) fun v3 =>
      fn_X7_init_b42 n h a0 v3
set_option maxHeartbeats 4000000 in
set_option maxRecDepth 100000 in
theorem pf_X7_init_b42 (r : Unit) (Y : mz_Y p g RX7 cX7_init 2 none "<init>" (mz_AF h0) s m args meth c) : ∀ (n : Nat) (h : mz_H) (a0 : (Option Nat)) (x1 : Int32) (dc ds : Nat), fn_X7_init_b42 n h a0 x1 = some (r, hf, dc, ds) → mz_Go l g p e s m args below meth c 2 41 DC DS h0 none hf 2 42 [(0, false, va_rf a0), (1, false, .int x1)] [] h dc ds := by
  have X := Y.1
  intro n
  induction n with
  | zero => intro h a0 x1 dc ds hr; simp [fn_X7_init_b42] at hr
  | succ n ih =>
    intro h a0 x1 dc ds hr
    rw [fn_X7_init_b42] at hr
    intro H locs cells slots ls hH hS hl hc hs
    refine lv_iload_n X.1 X.2.1 dX7_init_42 rfl (mz_at hl 1 rfl) ?_
    refine lv_bipush (v := 31) X.1 X.2.1 dX7_init_43 (by decide) ?_
    refine mz_icmp_ge X 68 dX7_init_45 (by decide) hr (fun hr => ?_) (fun hr => ?_)
    · exact mz_vret Y dX7_init_68 hH hS hc hs hr
    · refine mz_aload_n X dX7_init_48 rfl (mz_at hl 0 rfl) ?_
      refine mz_getR X hH fl_RX7_11 dX7_init_49 hr (fun v1 hr => ?_)
      refine lv_iload_n X.1 X.2.1 dX7_init_52 rfl (mz_at hl 1 rfl) ?_
      refine mz_kN X hH hS tyX1 rfl cl_1 tyX1_ok ⟨mz_tb 101 (by decide +kernel) rfl, mz_tb 103 (by decide +kernel) rfl, mz_tb 43 (by decide +kernel) rfl⟩ nw_1 dX7_init_53 hr hc hs (fun v2 h H cells slots dc ds hr hH hS hc hs => ?_)
      refine mz_dupR X dX7_init_56 ?_
      refine lv_iload_n X.1 X.2.1 dX7_init_57 rfl (mz_at hl 1 rfl) ?_
      refine mz_kI X hH hS hl.1.1 [.int x1] [va_rf v2, .int x1, va_rf v1] hr (ct_X1_init l g h v2 x1) mb_RX7_30 im_X1_init rfl rfl (Nat.le_of_ble_eq_true rfl) ⟨Nat.le_of_ble_eq_true rfl, Nat.le_of_ble_eq_true rfl⟩ hc hs dX7_init_58 rfl (fun _ h H locs cells slots dc ds hr hH hS hc hs => ?_)
      refine mz_aast (t := 11) X hH hS (by decide) rfl rfl dX7_init_61 hr (fun h H locs hr hH hS => ?_)
      obtain ⟨v3, hv3, hr⟩ := mz_op_some hr
      have hv3 := Option.some.inj hv3
      refine mz_iinc (k := 1) X [(1, false, .int v3), (0, false, va_rf a0)] v3 dX7_init_62 hl rfl hv3 (by decide) rfl (fun ls hl => ?_)
      refine lv_goto (tgt := 42) X.1 X.2.1 dX7_init_65 (by decide) ?_
      exact ih h a0 v3 _ _ hr H locs cells slots ls hH hS (mz_sub hl [1, 0] rfl) hc hs
def fn_X7_init (h : mz_H) (a0 : (Option Nat)) : mz_Res Unit :=
  mz_chk (a0).isSome <|
  mz_aN h 11 31 (.inr (.inr (.inr (.inr (fun _ => none))))) fun v1 h =>
  mz_op (mz_pF h a0 6 0 (va_rf v1)) fun h =>
  mz_aN h 11 31 (.inr (.inr (.inr (.inr (fun _ => none))))) fun v2 h =>
  mz_op (mz_pF h a0 6 1 (va_rf v2)) fun h =>
  mz_op (mz_pF h a0 6 4 (Value.int (-9))) fun h =>
  mz_op (mz_pF h a0 6 5 (Value.int (-9))) fun h =>
  mz_op (mz_pF h a0 6 6 (Value.int (-9))) fun h =>
  fn_X7_init_b42 1001 h a0 0
set_option maxHeartbeats 4000000 in
set_option maxRecDepth 100000 in
theorem pf_X7_init_b0 (r : Unit) (Y : mz_Y p g RX7 cX7_init 2 none "<init>" (mz_AF h0) s m args meth c) (h : mz_H) (a0 : (Option Nat)) (dc ds : Nat) (hr : fn_X7_init h a0 = some (r, hf, dc, ds)) : mz_Go l g p e s m args below meth c 2 41 DC DS h0 none hf 2 0 [(0, false, va_rf a0)] [] h dc ds := by
  unfold fn_X7_init at hr
  intro H locs cells slots ls hH hS hl hc hs
  have X := Y.1
  refine mz_aload_n X dX7_init_0 rfl (mz_at hl 0 rfl) ?_
  refine mz_oinit X hl.1.1 oi_RX7_3 (Nat.le_of_ble_eq_true rfl) ⟨Nat.le_of_ble_eq_true rfl, Nat.le_of_ble_eq_true rfl⟩ dX7_init_1 hr (fun hr => ?_)
  refine mz_aload_n X dX7_init_4 rfl (mz_at hl 0 rfl) ?_
  refine lv_bipush (v := 31) X.1 X.2.1 dX7_init_5 (by decide) ?_
  refine mz_kR (t := 11) X hH hS (by decide) rfl (by decide) (mz_tb 101 (by decide +kernel) rfl) dX7_init_7 hr hc hs (fun v1 h H cells slots dc ds hr hH hS hc hs => ?_)
  refine mz_putF X Y.2.2.2 hH hS fp_RX7_11 dX7_init_10 (mz_nra _ _).1 (mz_nra _ _).2 hr (fun h H locs hr hH hS => ?_)
  refine mz_aload_n X dX7_init_13 rfl (mz_at hl 0 rfl) ?_
  refine lv_bipush (v := 31) X.1 X.2.1 dX7_init_14 (by decide) ?_
  refine mz_kR (t := 11) X hH hS (by decide) rfl (by decide) (mz_tb 101 (by decide +kernel) rfl) dX7_init_16 hr hc hs (fun v2 h H cells slots dc ds hr hH hS hc hs => ?_)
  refine mz_putF X Y.2.2.2 hH hS fp_RX7_17 dX7_init_19 (mz_nra _ _).1 (mz_nra _ _).2 hr (fun h H locs hr hH hS => ?_)
  refine mz_aload_n X dX7_init_22 rfl (mz_at hl 0 rfl) ?_
  refine lv_bipush (v := (-9)) X.1 X.2.1 dX7_init_23 (by decide) ?_
  refine mz_put X hH hS fp_RX7_20 dX7_init_25 rfl rfl hr (fun h H locs hr hH hS => ?_)
  refine mz_aload_n X dX7_init_28 rfl (mz_at hl 0 rfl) ?_
  refine lv_bipush (v := (-9)) X.1 X.2.1 dX7_init_29 (by decide) ?_
  refine mz_put X hH hS fp_RX7_24 dX7_init_31 rfl rfl hr (fun h H locs hr hH hS => ?_)
  refine mz_aload_n X dX7_init_34 rfl (mz_at hl 0 rfl) ?_
  refine lv_bipush (v := (-9)) X.1 X.2.1 dX7_init_35 (by decide) ?_
  refine mz_put X hH hS fp_RX7_27 dX7_init_37 rfl rfl hr (fun h H locs hr hH hS => ?_)
  refine lv_iconst (v := 0) X.1 X.2.1 dX7_init_40 (by decide) ?_
  refine mz_istore_n X [(1, false, .int 0), (0, false, va_rf a0)] dX7_init_41 rfl hl (by decide) rfl (fun ls hl => ?_)
  exact pf_X7_init_b42 r Y 1001 h a0 0 _ _ hr H locs cells slots ls hH hS (mz_sub hl [1, 0] rfl) hc hs
set_option maxRecDepth 100000 in
theorem ct_X7_init (l : Launch) (g : mz_G) (h : mz_H) (a0 : (Option Nat)) (r : Unit) (hf : mz_H) (k n : Nat) (hr : fn_X7_init h a0 = some (r, hf, k, n)) : mz_C l g yX7_init cX7_init 2 none 2 41 [va_rf a0] h none hf k n := by
  refine mz_met (as := [(false, va_rf a0)]) (plainFor_of_name (by decide)) (mz_c1 (mz_cat_rf _) mz_c0) (Nat.le_of_ble_eq_true rfl) ?_
  intro p e s m args below meth c Y
  exact pf_X7_init_b0 r Y h a0 _ _ hr
end

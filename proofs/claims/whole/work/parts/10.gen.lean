/-! J_isNaN J_d2l J_fillI J_fillJ J_floorMod X3_isNotANumber X3_isFinite X3_digitsOf X3_powerOf X3_lengthOf X3_withoutDigits X3_packed X3_rounded X3_toFloat X3_become X3_widens X3_ofWhole X3_widened X3_isZero X3_negated X3_inOrder X3_isLess -/
section
variable {p : Program} {l : Launch} {e : Env} {s : State} {m : MethodId} {args : Array Value} {below : List Frame} {meth : Method} {c : Code} {g : mz_G} {h0 hf : mz_H} {DC DS : Nat}
theorem dJ_isNaN_0 : decode cJ_isNaN 0 = .ok (.dload_n 0, 1) := by decide +kernel
theorem dJ_isNaN_1 : decode cJ_isNaN 1 = .ok (.dload_n 0, 1) := by decide +kernel
theorem dJ_isNaN_2 : decode cJ_isNaN 2 = .ok (.dcmp .l, 1) := by decide +kernel
theorem dJ_isNaN_3 : decode cJ_isNaN 3 = .ok (.ifCond .eq 7, 3) := by decide +kernel
theorem dJ_isNaN_6 : decode cJ_isNaN 6 = .ok (.iconst 1, 1) := by decide +kernel
theorem dJ_isNaN_7 : decode cJ_isNaN 7 = .ok (.goto 4, 3) := by decide +kernel
theorem dJ_isNaN_10 : decode cJ_isNaN 10 = .ok (.iconst 0, 1) := by decide +kernel
theorem dJ_isNaN_11 : decode cJ_isNaN 11 = .ok (.ireturn, 1) := by decide +kernel
def fn_J_isNaN (h : mz_H) (d0 : UInt64) : mz_Res Int32 :=
  if (Op.cmpValue (FP.dcmp d0 d0) .l) = 0 then
    mz_chk ((0 : Int32) &&& 1 == 0) (mz_ret 0 h)
  else
    mz_chk ((1 : Int32) &&& 1 == 1) (mz_ret 1 h)
set_option maxHeartbeats 4000000 in
set_option maxRecDepth 100000 in
theorem pf_J_isNaN_b0 (r : Int32) (Y : mz_Y p g RJd cJ_isNaN 2 (some .boolean) "isNaN" (mz_AF h0) s m args meth c) (h : mz_H) (d0 : UInt64) (dc ds : Nat) (hr : fn_J_isNaN h d0 = some (r, hf, dc, ds)) : mz_Go l g p e s m args below meth c 0 0 DC DS h0 (some (Value.int r)) hf 2 0 [(0, true, .double d0)] [] h dc ds := by
  unfold fn_J_isNaN at hr
  intro H locs cells slots ls hH hS hl hc hs
  have X := Y.1
  refine lv_dload_n X.1 X.2.1 dJ_isNaN_0 rfl (mz_at hl 0 rfl) ?_
  refine lv_dload_n X.1 X.2.1 dJ_isNaN_1 rfl (mz_at hl 0 rfl) ?_
  refine lv_dcmp X.1 X.2.1 dJ_isNaN_2 ?_
  refine mz_if_eq X 10 dJ_isNaN_3 (by decide) hr (fun hr => ?_) (fun hr => ?_)
  · refine lv_iconst (v := 0) X.1 X.2.1 dJ_isNaN_10 (by decide) ?_
    exact mz_zret Y dJ_isNaN_11 hH hS hc hs hr
  · refine lv_iconst (v := 1) X.1 X.2.1 dJ_isNaN_6 (by decide) ?_
    refine lv_goto (tgt := 11) X.1 X.2.1 dJ_isNaN_7 (by decide) ?_
    exact mz_zret Y dJ_isNaN_11 hH hS hc hs hr
set_option maxRecDepth 100000 in
theorem ct_J_isNaN (l : Launch) (g : mz_G) (h : mz_H) (d0 : UInt64) (r : Int32) (hf : mz_H) (k n : Nat) (hr : fn_J_isNaN h d0 = some (r, hf, k, n)) : mz_C l g yJ_isNaN cJ_isNaN 2 (some .boolean) 0 0 [.double d0] h (some (Value.int r)) hf k n := by
  refine mz_met (as := [(true, .double d0)]) (plainFor_of_name (by decide)) (mz_c1 rfl mz_c0) (Nat.le_of_ble_eq_true rfl) ?_
  intro p e s m args below meth c Y
  exact pf_J_isNaN_b0 r Y h d0 _ _ hr
theorem dJ_d2l_0 : decode cJ_d2l 0 = .ok (.dload_n 0, 1) := by decide +kernel
theorem dJ_d2l_1 : decode cJ_d2l 1 = .ok (.invokestatic 122, 3) := by decide +kernel
theorem dJ_d2l_4 : decode cJ_d2l 4 = .ok (.ifCond .ne 8, 3) := by decide +kernel
theorem dJ_d2l_7 : decode cJ_d2l 7 = .ok (.dload_n 0, 1) := by decide +kernel
theorem dJ_d2l_8 : decode cJ_d2l 8 = .ok (.invokestatic 134, 3) := by decide +kernel
theorem dJ_d2l_11 : decode cJ_d2l 11 = .ok (.lreturn, 1) := by decide +kernel
theorem dJ_d2l_12 : decode cJ_d2l 12 = .ok (.ldc2_w 137, 3) := by decide +kernel
theorem dJ_d2l_15 : decode cJ_d2l 15 = .ok (.lreturn, 1) := by decide +kernel
def fn_J_d2l (h : mz_H) (d0 : UInt64) : mz_Res Int64 :=
  mz_call (fn_J_isNaN h d0) fun v1 h =>
  if v1 = 0 then
    mz_ret (UInt64.toInt64 d0) h
  else
    mz_ret 9221120237041090560 h
set_option maxHeartbeats 4000000 in
set_option maxRecDepth 100000 in
theorem pf_J_d2l_b0 (r : Int64) (Y : mz_Y p g RJd cJ_d2l 2 (some .long) "doubleToLongBits" (mz_AF h0) s m args meth c) (h : mz_H) (d0 : UInt64) (dc ds : Nat) (hr : fn_J_d2l h d0 = some (r, hf, dc, ds)) : mz_Go l g p e s m args below meth c 1 23 DC DS h0 (some (Value.long r)) hf 2 0 [(0, true, .double d0)] [] h dc ds := by
  unfold fn_J_d2l at hr
  intro H locs cells slots ls hH hS hl hc hs
  have X := Y.1
  refine lv_dload_n X.1 X.2.1 dJ_d2l_0 rfl (mz_at hl 0 rfl) ?_
  refine mz_kS Value.int X hH hS hl.1.1 [.double d0] [] hr (ct_J_isNaN l g h d0) mb_RJd_122 im_J_isNaN rfl (Nat.le_of_ble_eq_true rfl) ⟨Nat.le_of_ble_eq_true rfl, Nat.le_of_ble_eq_true rfl⟩ hc hs dJ_d2l_1 rfl (fun v1 h H locs cells slots dc ds hr hH hS hc hs => ?_)
  refine mz_if_ne X 12 dJ_d2l_4 (by decide) hr (fun hr => ?_) (fun hr => ?_)
  · refine mz_ldc2 (v := 9221120237041090560) X (mz_tb 1320 (by decide +kernel) rfl) dJ_d2l_12 ?_
    exact mz_lret Y dJ_d2l_15 hH hS hc hs hr
  · refine lv_dload_n X.1 X.2.1 dJ_d2l_7 rfl (mz_at hl 0 rfl) ?_
    refine mz_d2lN X hl.1.1 ⟨mz_tb 1317 (by decide +kernel) rfl, mz_tb 1319 (by decide +kernel) rfl, mz_tb 1318 (by decide +kernel) rfl, mz_tb 55 (by decide +kernel) rfl⟩ (Nat.le_of_ble_eq_true rfl) ⟨Nat.le_of_ble_eq_true rfl, Nat.le_of_ble_eq_true rfl⟩ dJ_d2l_8 ?_
    exact mz_lret Y dJ_d2l_11 hH hS hc hs hr
set_option maxRecDepth 100000 in
theorem ct_J_d2l (l : Launch) (g : mz_G) (h : mz_H) (d0 : UInt64) (r : Int64) (hf : mz_H) (k n : Nat) (hr : fn_J_d2l h d0 = some (r, hf, k, n)) : mz_C l g yJ_d2l cJ_d2l 2 (some .long) 1 23 [.double d0] h (some (Value.long r)) hf k n := by
  refine mz_met (as := [(true, .double d0)]) (plainFor_of_name (by decide)) (mz_c1 rfl mz_c0) (Nat.le_of_ble_eq_true rfl) ?_
  intro p e s m args below meth c Y
  exact pf_J_d2l_b0 r Y h d0 _ _ hr
theorem dJ_fillI_0 : decode cJ_fillI 0 = .ok (.iconst 0, 1) := by decide +kernel
theorem dJ_fillI_1 : decode cJ_fillI 1 = .ok (.istore_n 2, 1) := by decide +kernel
theorem dJ_fillI_2 : decode cJ_fillI 2 = .ok (.aload_n 0, 1) := by decide +kernel
theorem dJ_fillI_3 : decode cJ_fillI 3 = .ok (.arraylength, 1) := by decide +kernel
theorem dJ_fillI_4 : decode cJ_fillI 4 = .ok (.istore_n 3, 1) := by decide +kernel
theorem dJ_fillI_5 : decode cJ_fillI 5 = .ok (.iload_n 2, 1) := by decide +kernel
theorem dJ_fillI_6 : decode cJ_fillI 6 = .ok (.iload_n 3, 1) := by decide +kernel
theorem dJ_fillI_7 : decode cJ_fillI 7 = .ok (.if_icmp .ge 13, 3) := by decide +kernel
theorem dJ_fillI_10 : decode cJ_fillI 10 = .ok (.aload_n 0, 1) := by decide +kernel
theorem dJ_fillI_11 : decode cJ_fillI 11 = .ok (.iload_n 2, 1) := by decide +kernel
theorem dJ_fillI_12 : decode cJ_fillI 12 = .ok (.iload_n 1, 1) := by decide +kernel
theorem dJ_fillI_13 : decode cJ_fillI 13 = .ok (.iastore, 1) := by decide +kernel
theorem dJ_fillI_14 : decode cJ_fillI 14 = .ok (.iinc 2 1, 3) := by decide +kernel
theorem dJ_fillI_17 : decode cJ_fillI 17 = .ok (.goto (-12), 3) := by decide +kernel
theorem dJ_fillI_20 : decode cJ_fillI 20 = .ok (.return_, 1) := by decide +kernel
def fn_J_fillI_b5 : Nat → mz_H → (Option Nat) → Int32 → Int32 → Int32 → mz_Res Unit
  | 0, _, _, _, _, _ => none
  | n + 1, h, a0, x1, x2, x3 =>
    if x3 ≤ x2 then
      mz_ret () h
    else
      mz_op (mz_sI h a0 0 x2 x1) fun h =>
      mz_op (some (x2 + 1)) fun v1 =>
      fn_J_fillI_b5 n h a0 x1 v1 x3
set_option maxHeartbeats 4000000 in
set_option maxRecDepth 100000 in
theorem pf_J_fillI_b5 (r : Unit) (Y : mz_Y p g RJa cJ_fillI 4 none "fill" (mz_AF h0) s m args meth c) : ∀ (n : Nat) (h : mz_H) (a0 : (Option Nat)) (x1 : Int32) (x2 : Int32) (x3 : Int32) (dc ds : Nat), fn_J_fillI_b5 n h a0 x1 x2 x3 = some (r, hf, dc, ds) → mz_Go l g p e s m args below meth c 0 0 DC DS h0 none hf 4 5 [(0, false, va_rf a0), (1, false, .int x1), (2, false, .int x2), (3, false, .int x3)] [] h dc ds := by
  have X := Y.1
  intro n
  induction n with
  | zero => intro h a0 x1 x2 x3 dc ds hr; simp [fn_J_fillI_b5] at hr
  | succ n ih =>
    intro h a0 x1 x2 x3 dc ds hr
    rw [fn_J_fillI_b5] at hr
    intro H locs cells slots ls hH hS hl hc hs
    refine lv_iload_n X.1 X.2.1 dJ_fillI_5 rfl (mz_at hl 2 rfl) ?_
    refine lv_iload_n X.1 X.2.1 dJ_fillI_6 rfl (mz_at hl 3 rfl) ?_
    refine mz_icmp_ge X 20 dJ_fillI_7 (by decide) hr (fun hr => ?_) (fun hr => ?_)
    · exact mz_vret Y dJ_fillI_20 hH hS hc hs hr
    · refine mz_aload_n X dJ_fillI_10 rfl (mz_at hl 0 rfl) ?_
      refine lv_iload_n X.1 X.2.1 dJ_fillI_11 rfl (mz_at hl 2 rfl) ?_
      refine lv_iload_n X.1 X.2.1 dJ_fillI_12 rfl (mz_at hl 1 rfl) ?_
      refine mz_iast X hH hS dJ_fillI_13 hr (fun h H locs hr hH hS => ?_)
      obtain ⟨v1, hv1, hr⟩ := mz_op_some hr
      have hv1 := Option.some.inj hv1
      refine mz_iinc (k := 2) X [(2, false, .int v1), (0, false, va_rf a0), (1, false, .int x1), (3, false, .int x3)] v1 dJ_fillI_14 hl rfl hv1 (by decide) rfl (fun ls hl => ?_)
      refine lv_goto (tgt := 5) X.1 X.2.1 dJ_fillI_17 (by decide) ?_
      exact ih h a0 x1 v1 x3 _ _ hr H locs cells slots ls hH hS (mz_sub hl [1, 2, 0, 3] rfl) hc hs
def fn_J_fillI (h : mz_H) (a0 : (Option Nat)) (x1 : Int32) : mz_Res Unit :=
  mz_op (mz_len h a0 0) fun v1 =>
  fn_J_fillI_b5 1001 h a0 x1 0 v1
set_option maxHeartbeats 4000000 in
set_option maxRecDepth 100000 in
theorem pf_J_fillI_b0 (r : Unit) (Y : mz_Y p g RJa cJ_fillI 4 none "fill" (mz_AF h0) s m args meth c) (h : mz_H) (a0 : (Option Nat)) (x1 : Int32) (dc ds : Nat) (hr : fn_J_fillI h a0 x1 = some (r, hf, dc, ds)) : mz_Go l g p e s m args below meth c 0 0 DC DS h0 none hf 4 0 [(0, false, va_rf a0), (1, false, .int x1)] [] h dc ds := by
  unfold fn_J_fillI at hr
  intro H locs cells slots ls hH hS hl hc hs
  have X := Y.1
  refine lv_iconst (v := 0) X.1 X.2.1 dJ_fillI_0 (by decide) ?_
  refine mz_istore_n X [(2, false, .int 0), (0, false, va_rf a0), (1, false, .int x1)] dJ_fillI_1 rfl hl (by decide) rfl (fun ls hl => ?_)
  refine mz_aload_n X dJ_fillI_2 rfl (mz_at hl 1 rfl) ?_
  refine mz_alen (t := 0) X hH (by decide) dJ_fillI_3 hr (fun v1 hr => ?_)
  refine mz_istore_n X [(3, false, .int v1), (2, false, .int 0), (0, false, va_rf a0), (1, false, .int x1)] dJ_fillI_4 rfl hl (by decide) rfl (fun ls hl => ?_)
  exact pf_J_fillI_b5 r Y 1001 h a0 x1 0 v1 _ _ hr H locs cells slots ls hH hS (mz_sub hl [2, 3, 1, 0] rfl) hc hs
set_option maxRecDepth 100000 in
theorem ct_J_fillI (l : Launch) (g : mz_G) (h : mz_H) (a0 : (Option Nat)) (x1 : Int32) (r : Unit) (hf : mz_H) (k n : Nat) (hr : fn_J_fillI h a0 x1 = some (r, hf, k, n)) : mz_C l g yJ_fillI cJ_fillI 4 none 0 0 [va_rf a0, .int x1] h none hf k n := by
  refine mz_met (as := [(false, va_rf a0), (false, .int x1)]) (plainFor_of_name (by decide)) (mz_c1 (mz_cat_rf _) (mz_c1 rfl mz_c0)) (Nat.le_of_ble_eq_true rfl) ?_
  intro p e s m args below meth c Y
  exact pf_J_fillI_b0 r Y h a0 x1 _ _ hr
theorem dJ_fillJ_0 : decode cJ_fillJ 0 = .ok (.iconst 0, 1) := by decide +kernel
theorem dJ_fillJ_1 : decode cJ_fillJ 1 = .ok (.istore_n 3, 1) := by decide +kernel
theorem dJ_fillJ_2 : decode cJ_fillJ 2 = .ok (.aload_n 0, 1) := by decide +kernel
theorem dJ_fillJ_3 : decode cJ_fillJ 3 = .ok (.arraylength, 1) := by decide +kernel
theorem dJ_fillJ_4 : decode cJ_fillJ 4 = .ok (.istore 4, 2) := by decide +kernel
theorem dJ_fillJ_6 : decode cJ_fillJ 6 = .ok (.iload_n 3, 1) := by decide +kernel
theorem dJ_fillJ_7 : decode cJ_fillJ 7 = .ok (.iload 4, 2) := by decide +kernel
theorem dJ_fillJ_9 : decode cJ_fillJ 9 = .ok (.if_icmp .ge 13, 3) := by decide +kernel
theorem dJ_fillJ_12 : decode cJ_fillJ 12 = .ok (.aload_n 0, 1) := by decide +kernel
theorem dJ_fillJ_13 : decode cJ_fillJ 13 = .ok (.iload_n 3, 1) := by decide +kernel
theorem dJ_fillJ_14 : decode cJ_fillJ 14 = .ok (.lload_n 1, 1) := by decide +kernel
theorem dJ_fillJ_15 : decode cJ_fillJ 15 = .ok (.lastore, 1) := by decide +kernel
theorem dJ_fillJ_16 : decode cJ_fillJ 16 = .ok (.iinc 3 1, 3) := by decide +kernel
theorem dJ_fillJ_19 : decode cJ_fillJ 19 = .ok (.goto (-13), 3) := by decide +kernel
theorem dJ_fillJ_22 : decode cJ_fillJ 22 = .ok (.return_, 1) := by decide +kernel
def fn_J_fillJ_b6 : Nat → mz_H → (Option Nat) → Int64 → Int32 → Int32 → mz_Res Unit
  | 0, _, _, _, _, _ => none
  | n + 1, h, a0, j1, x3, x4 =>
    if x4 ≤ x3 then
      mz_ret () h
    else
      mz_op (mz_sJ h a0 x3 j1) fun h =>
      mz_op (some (x3 + 1)) fun v1 =>
      fn_J_fillJ_b6 n h a0 j1 v1 x4
set_option maxHeartbeats 4000000 in
set_option maxRecDepth 100000 in
theorem pf_J_fillJ_b6 (r : Unit) (Y : mz_Y p g RJa cJ_fillJ 5 none "fill" (mz_AF h0) s m args meth c) : ∀ (n : Nat) (h : mz_H) (a0 : (Option Nat)) (j1 : Int64) (x3 : Int32) (x4 : Int32) (dc ds : Nat), fn_J_fillJ_b6 n h a0 j1 x3 x4 = some (r, hf, dc, ds) → mz_Go l g p e s m args below meth c 0 0 DC DS h0 none hf 5 6 [(0, false, va_rf a0), (1, true, .long j1), (3, false, .int x3), (4, false, .int x4)] [] h dc ds := by
  have X := Y.1
  intro n
  induction n with
  | zero => intro h a0 j1 x3 x4 dc ds hr; simp [fn_J_fillJ_b6] at hr
  | succ n ih =>
    intro h a0 j1 x3 x4 dc ds hr
    rw [fn_J_fillJ_b6] at hr
    intro H locs cells slots ls hH hS hl hc hs
    refine lv_iload_n X.1 X.2.1 dJ_fillJ_6 rfl (mz_at hl 2 rfl) ?_
    refine lv_iload X.1 X.2.1 dJ_fillJ_7 (mz_at hl 3 rfl) ?_
    refine mz_icmp_ge X 22 dJ_fillJ_9 (by decide) hr (fun hr => ?_) (fun hr => ?_)
    · exact mz_vret Y dJ_fillJ_22 hH hS hc hs hr
    · refine mz_aload_n X dJ_fillJ_12 rfl (mz_at hl 0 rfl) ?_
      refine lv_iload_n X.1 X.2.1 dJ_fillJ_13 rfl (mz_at hl 2 rfl) ?_
      refine lv_lload_n X.1 X.2.1 dJ_fillJ_14 rfl (mz_at hl 1 rfl) ?_
      refine mz_last X hH hS dJ_fillJ_15 hr (fun h H locs hr hH hS => ?_)
      obtain ⟨v1, hv1, hr⟩ := mz_op_some hr
      have hv1 := Option.some.inj hv1
      refine mz_iinc (k := 2) X [(3, false, .int v1), (0, false, va_rf a0), (1, true, .long j1), (4, false, .int x4)] v1 dJ_fillJ_16 hl rfl hv1 (by decide) rfl (fun ls hl => ?_)
      refine lv_goto (tgt := 6) X.1 X.2.1 dJ_fillJ_19 (by decide) ?_
      exact ih h a0 j1 v1 x4 _ _ hr H locs cells slots ls hH hS (mz_sub hl [1, 2, 0, 3] rfl) hc hs
def fn_J_fillJ (h : mz_H) (a0 : (Option Nat)) (j1 : Int64) : mz_Res Unit :=
  mz_op (mz_len h a0 1) fun v1 =>
  fn_J_fillJ_b6 1001 h a0 j1 0 v1
set_option maxHeartbeats 4000000 in
set_option maxRecDepth 100000 in
theorem pf_J_fillJ_b0 (r : Unit) (Y : mz_Y p g RJa cJ_fillJ 5 none "fill" (mz_AF h0) s m args meth c) (h : mz_H) (a0 : (Option Nat)) (j1 : Int64) (dc ds : Nat) (hr : fn_J_fillJ h a0 j1 = some (r, hf, dc, ds)) : mz_Go l g p e s m args below meth c 0 0 DC DS h0 none hf 5 0 [(0, false, va_rf a0), (1, true, .long j1)] [] h dc ds := by
  unfold fn_J_fillJ at hr
  intro H locs cells slots ls hH hS hl hc hs
  have X := Y.1
  refine lv_iconst (v := 0) X.1 X.2.1 dJ_fillJ_0 (by decide) ?_
  refine mz_istore_n X [(3, false, .int 0), (0, false, va_rf a0), (1, true, .long j1)] dJ_fillJ_1 rfl hl (by decide) rfl (fun ls hl => ?_)
  refine mz_aload_n X dJ_fillJ_2 rfl (mz_at hl 1 rfl) ?_
  refine mz_alen (t := 1) X hH (by decide) dJ_fillJ_3 hr (fun v1 hr => ?_)
  refine mz_istore X [(4, false, .int v1), (3, false, .int 0), (0, false, va_rf a0), (1, true, .long j1)] dJ_fillJ_4 hl (by decide) rfl (fun ls hl => ?_)
  exact pf_J_fillJ_b6 r Y 1001 h a0 j1 0 v1 _ _ hr H locs cells slots ls hH hS (mz_sub hl [2, 3, 1, 0] rfl) hc hs
set_option maxRecDepth 100000 in
theorem ct_J_fillJ (l : Launch) (g : mz_G) (h : mz_H) (a0 : (Option Nat)) (j1 : Int64) (r : Unit) (hf : mz_H) (k n : Nat) (hr : fn_J_fillJ h a0 j1 = some (r, hf, k, n)) : mz_C l g yJ_fillJ cJ_fillJ 5 none 0 0 [va_rf a0, .long j1] h none hf k n := by
  refine mz_met (as := [(false, va_rf a0), (true, .long j1)]) (plainFor_of_name (by decide)) (mz_c1 (mz_cat_rf _) (mz_c1 rfl mz_c0)) (Nat.le_of_ble_eq_true rfl) ?_
  intro p e s m args below meth c Y
  exact pf_J_fillJ_b0 r Y h a0 j1 _ _ hr
theorem dJ_floorMod_0 : decode cJ_floorMod 0 = .ok (.lload_n 0, 1) := by decide +kernel
theorem dJ_floorMod_1 : decode cJ_floorMod 1 = .ok (.lload_n 2, 1) := by decide +kernel
theorem dJ_floorMod_2 : decode cJ_floorMod 2 = .ok (.lrem, 1) := by decide +kernel
theorem dJ_floorMod_3 : decode cJ_floorMod 3 = .ok (.lstore 4, 2) := by decide +kernel
theorem dJ_floorMod_5 : decode cJ_floorMod 5 = .ok (.lload_n 0, 1) := by decide +kernel
theorem dJ_floorMod_6 : decode cJ_floorMod 6 = .ok (.lload_n 2, 1) := by decide +kernel
theorem dJ_floorMod_7 : decode cJ_floorMod 7 = .ok (.lxor, 1) := by decide +kernel
theorem dJ_floorMod_8 : decode cJ_floorMod 8 = .ok (.lconst 0, 1) := by decide +kernel
theorem dJ_floorMod_9 : decode cJ_floorMod 9 = .ok (.lcmp, 1) := by decide +kernel
theorem dJ_floorMod_10 : decode cJ_floorMod 10 = .ok (.ifCond .ge 15, 3) := by decide +kernel
theorem dJ_floorMod_13 : decode cJ_floorMod 13 = .ok (.lload 4, 2) := by decide +kernel
theorem dJ_floorMod_15 : decode cJ_floorMod 15 = .ok (.lconst 0, 1) := by decide +kernel
theorem dJ_floorMod_16 : decode cJ_floorMod 16 = .ok (.lcmp, 1) := by decide +kernel
theorem dJ_floorMod_17 : decode cJ_floorMod 17 = .ok (.ifCond .eq 8, 3) := by decide +kernel
theorem dJ_floorMod_20 : decode cJ_floorMod 20 = .ok (.lload 4, 2) := by decide +kernel
theorem dJ_floorMod_22 : decode cJ_floorMod 22 = .ok (.lload_n 2, 1) := by decide +kernel
theorem dJ_floorMod_23 : decode cJ_floorMod 23 = .ok (.ladd, 1) := by decide +kernel
theorem dJ_floorMod_24 : decode cJ_floorMod 24 = .ok (.lreturn, 1) := by decide +kernel
theorem dJ_floorMod_25 : decode cJ_floorMod 25 = .ok (.lload 4, 2) := by decide +kernel
theorem dJ_floorMod_27 : decode cJ_floorMod 27 = .ok (.lreturn, 1) := by decide +kernel
def fn_J_floorMod (h : mz_H) (j0 : Int64) (j2 : Int64) : mz_Res Int64 :=
  mz_chk (decide (¬ j2 = 0)) <|
  mz_op (some (j0 - j0 / j2 * j2)) fun v1 =>
  if 0 ≤ (lg_cmp (j0 ^^^ j2) 0) then
    mz_ret v1 h
  else
    if (lg_cmp v1 0) = 0 then
      mz_ret v1 h
    else
      mz_ret (v1 + j2) h
set_option maxHeartbeats 4000000 in
set_option maxRecDepth 100000 in
theorem pf_J_floorMod_b0 (r : Int64) (Y : mz_Y p g RJm cJ_floorMod 6 (some .long) "floorMod" (mz_AF h0) s m args meth c) (h : mz_H) (j0 : Int64) (j2 : Int64) (dc ds : Nat) (hr : fn_J_floorMod h j0 j2 = some (r, hf, dc, ds)) : mz_Go l g p e s m args below meth c 0 0 DC DS h0 (some (Value.long r)) hf 6 0 [(0, true, .long j0), (2, true, .long j2)] [] h dc ds := by
  unfold fn_J_floorMod at hr
  intro H locs cells slots ls hH hS hl hc hs
  have X := Y.1
  refine lv_lload_n X.1 X.2.1 dJ_floorMod_0 rfl (mz_at hl 0 rfl) ?_
  refine lv_lload_n X.1 X.2.1 dJ_floorMod_1 rfl (mz_at hl 1 rfl) ?_
  refine mz_lrem X dJ_floorMod_2 hr (fun hr => ?_)
  refine mz_topl hr (fun v1 hv1 hr => ?_)
  refine mz_lstore X [(4, true, .long v1), (0, true, .long j0), (2, true, .long j2)] dJ_floorMod_3 hl (by decide) rfl (fun ls hl => ?_)
  refine lv_lload_n X.1 X.2.1 dJ_floorMod_5 rfl (mz_at hl 1 rfl) ?_
  refine lv_lload_n X.1 X.2.1 dJ_floorMod_6 rfl (mz_at hl 2 rfl) ?_
  refine lv_lxor X.1 X.2.1 dJ_floorMod_7 ?_
  refine lv_lconst (v := 0) X.1 X.2.1 dJ_floorMod_8 (by decide) ?_
  refine W.lcmp X.1 X.2.1 dJ_floorMod_9 ?_
  refine mz_if_ge X 25 dJ_floorMod_10 (by decide) hr (fun hr => ?_) (fun hr => ?_)
  · refine lv_lload X.1 X.2.1 dJ_floorMod_25 (mz_at hl 0 rfl) ?_
    exact mz_lret Y dJ_floorMod_27 hH hS hc hs hr
  · refine lv_lload X.1 X.2.1 dJ_floorMod_13 (mz_at hl 0 rfl) ?_
    refine lv_lconst (v := 0) X.1 X.2.1 dJ_floorMod_15 (by decide) ?_
    refine W.lcmp X.1 X.2.1 dJ_floorMod_16 ?_
    refine mz_if_eq X 25 dJ_floorMod_17 (by decide) hr (fun hr => ?_) (fun hr => ?_)
    · refine lv_lload X.1 X.2.1 dJ_floorMod_25 (mz_at hl 0 rfl) ?_
      exact mz_lret Y dJ_floorMod_27 hH hS hc hs hr
    · refine lv_lload X.1 X.2.1 dJ_floorMod_20 (mz_at hl 0 rfl) ?_
      refine lv_lload_n X.1 X.2.1 dJ_floorMod_22 rfl (mz_at hl 2 rfl) ?_
      refine lv_ladd X.1 X.2.1 dJ_floorMod_23 ?_
      exact mz_lret Y dJ_floorMod_24 hH hS hc hs hr
set_option maxRecDepth 100000 in
theorem ct_J_floorMod (l : Launch) (g : mz_G) (h : mz_H) (j0 : Int64) (j2 : Int64) (r : Int64) (hf : mz_H) (k n : Nat) (hr : fn_J_floorMod h j0 j2 = some (r, hf, k, n)) : mz_C l g yJ_floorMod cJ_floorMod 6 (some .long) 0 0 [.long j0, .long j2] h (some (Value.long r)) hf k n := by
  refine mz_met (as := [(true, .long j0), (true, .long j2)]) (by decide +kernel) (mz_c1 rfl (mz_c1 rfl mz_c0)) (Nat.le_of_ble_eq_true rfl) ?_
  intro p e s m args below meth c Y
  exact pf_J_floorMod_b0 r Y h j0 j2 _ _ hr
theorem dX3_isNotANumber_0 : decode cX3_isNotANumber 0 = .ok (.lload_n 0, 1) := by decide +kernel
theorem dX3_isNotANumber_1 : decode cX3_isNotANumber 1 = .ok (.ldc2_w 31, 3) := by decide +kernel
theorem dX3_isNotANumber_4 : decode cX3_isNotANumber 4 = .ok (.land, 1) := by decide +kernel
theorem dX3_isNotANumber_5 : decode cX3_isNotANumber 5 = .ok (.ldc2_w 29, 3) := by decide +kernel
theorem dX3_isNotANumber_8 : decode cX3_isNotANumber 8 = .ok (.lcmp, 1) := by decide +kernel
theorem dX3_isNotANumber_9 : decode cX3_isNotANumber 9 = .ok (.ifCond .le 7, 3) := by decide +kernel
theorem dX3_isNotANumber_12 : decode cX3_isNotANumber 12 = .ok (.iconst 1, 1) := by decide +kernel
theorem dX3_isNotANumber_13 : decode cX3_isNotANumber 13 = .ok (.goto 4, 3) := by decide +kernel
theorem dX3_isNotANumber_16 : decode cX3_isNotANumber 16 = .ok (.iconst 0, 1) := by decide +kernel
theorem dX3_isNotANumber_17 : decode cX3_isNotANumber 17 = .ok (.ireturn, 1) := by decide +kernel
def fn_X3_isNotANumber (h : mz_H) (j0 : Int64) : mz_Res Int32 :=
  if (lg_cmp (j0 &&& 9223372036854775807) 9218868437227405312) ≤ 0 then
    mz_chk ((0 : Int32) &&& 1 == 0) (mz_ret 0 h)
  else
    mz_chk ((1 : Int32) &&& 1 == 1) (mz_ret 1 h)
set_option maxHeartbeats 4000000 in
set_option maxRecDepth 100000 in
theorem pf_X3_isNotANumber_b0 (r : Int32) (Y : mz_Y p g RX3 cX3_isNotANumber 2 (some .boolean) "isNotANumber" (mz_AF h0) s m args meth c) (h : mz_H) (j0 : Int64) (dc ds : Nat) (hr : fn_X3_isNotANumber h j0 = some (r, hf, dc, ds)) : mz_Go l g p e s m args below meth c 0 0 DC DS h0 (some (Value.int r)) hf 2 0 [(0, true, .long j0)] [] h dc ds := by
  unfold fn_X3_isNotANumber at hr
  intro H locs cells slots ls hH hS hl hc hs
  have X := Y.1
  refine lv_lload_n X.1 X.2.1 dX3_isNotANumber_0 rfl (mz_at hl 0 rfl) ?_
  refine mz_ldc2 (v := 9223372036854775807) X (mz_tb 677 (by decide +kernel) rfl) dX3_isNotANumber_1 ?_
  refine lv_land X.1 X.2.1 dX3_isNotANumber_4 ?_
  refine mz_ldc2 (v := 9218868437227405312) X (mz_tb 678 (by decide +kernel) rfl) dX3_isNotANumber_5 ?_
  refine W.lcmp X.1 X.2.1 dX3_isNotANumber_8 ?_
  refine mz_if_le X 16 dX3_isNotANumber_9 (by decide) hr (fun hr => ?_) (fun hr => ?_)
  · refine lv_iconst (v := 0) X.1 X.2.1 dX3_isNotANumber_16 (by decide) ?_
    exact mz_zret Y dX3_isNotANumber_17 hH hS hc hs hr
  · refine lv_iconst (v := 1) X.1 X.2.1 dX3_isNotANumber_12 (by decide) ?_
    refine lv_goto (tgt := 17) X.1 X.2.1 dX3_isNotANumber_13 (by decide) ?_
    exact mz_zret Y dX3_isNotANumber_17 hH hS hc hs hr
set_option maxRecDepth 100000 in
theorem ct_X3_isNotANumber (l : Launch) (g : mz_G) (h : mz_H) (j0 : Int64) (r : Int32) (hf : mz_H) (k n : Nat) (hr : fn_X3_isNotANumber h j0 = some (r, hf, k, n)) : mz_C l g yX3_isNotANumber cX3_isNotANumber 2 (some .boolean) 0 0 [.long j0] h (some (Value.int r)) hf k n := by
  refine mz_met (as := [(true, .long j0)]) (plainFor_of_name (by decide)) (mz_c1 rfl mz_c0) (Nat.le_of_ble_eq_true rfl) ?_
  intro p e s m args below meth c Y
  exact pf_X3_isNotANumber_b0 r Y h j0 _ _ hr
theorem dX3_isFinite_0 : decode cX3_isFinite 0 = .ok (.lload_n 0, 1) := by decide +kernel
theorem dX3_isFinite_1 : decode cX3_isFinite 1 = .ok (.ldc2_w 29, 3) := by decide +kernel
theorem dX3_isFinite_4 : decode cX3_isFinite 4 = .ok (.land, 1) := by decide +kernel
theorem dX3_isFinite_5 : decode cX3_isFinite 5 = .ok (.ldc2_w 29, 3) := by decide +kernel
theorem dX3_isFinite_8 : decode cX3_isFinite 8 = .ok (.lcmp, 1) := by decide +kernel
theorem dX3_isFinite_9 : decode cX3_isFinite 9 = .ok (.ifCond .eq 7, 3) := by decide +kernel
theorem dX3_isFinite_12 : decode cX3_isFinite 12 = .ok (.iconst 1, 1) := by decide +kernel
theorem dX3_isFinite_13 : decode cX3_isFinite 13 = .ok (.goto 4, 3) := by decide +kernel
theorem dX3_isFinite_16 : decode cX3_isFinite 16 = .ok (.iconst 0, 1) := by decide +kernel
theorem dX3_isFinite_17 : decode cX3_isFinite 17 = .ok (.ireturn, 1) := by decide +kernel
def fn_X3_isFinite (h : mz_H) (j0 : Int64) : mz_Res Int32 :=
  if (lg_cmp (j0 &&& 9218868437227405312) 9218868437227405312) = 0 then
    mz_chk ((0 : Int32) &&& 1 == 0) (mz_ret 0 h)
  else
    mz_chk ((1 : Int32) &&& 1 == 1) (mz_ret 1 h)
set_option maxHeartbeats 4000000 in
set_option maxRecDepth 100000 in
theorem pf_X3_isFinite_b0 (r : Int32) (Y : mz_Y p g RX3 cX3_isFinite 2 (some .boolean) "isFinite" (mz_AF h0) s m args meth c) (h : mz_H) (j0 : Int64) (dc ds : Nat) (hr : fn_X3_isFinite h j0 = some (r, hf, dc, ds)) : mz_Go l g p e s m args below meth c 0 0 DC DS h0 (some (Value.int r)) hf 2 0 [(0, true, .long j0)] [] h dc ds := by
  unfold fn_X3_isFinite at hr
  intro H locs cells slots ls hH hS hl hc hs
  have X := Y.1
  refine lv_lload_n X.1 X.2.1 dX3_isFinite_0 rfl (mz_at hl 0 rfl) ?_
  refine mz_ldc2 (v := 9218868437227405312) X (mz_tb 678 (by decide +kernel) rfl) dX3_isFinite_1 ?_
  refine lv_land X.1 X.2.1 dX3_isFinite_4 ?_
  refine mz_ldc2 (v := 9218868437227405312) X (mz_tb 678 (by decide +kernel) rfl) dX3_isFinite_5 ?_
  refine W.lcmp X.1 X.2.1 dX3_isFinite_8 ?_
  refine mz_if_eq X 16 dX3_isFinite_9 (by decide) hr (fun hr => ?_) (fun hr => ?_)
  · refine lv_iconst (v := 0) X.1 X.2.1 dX3_isFinite_16 (by decide) ?_
    exact mz_zret Y dX3_isFinite_17 hH hS hc hs hr
  · refine lv_iconst (v := 1) X.1 X.2.1 dX3_isFinite_12 (by decide) ?_
    refine lv_goto (tgt := 17) X.1 X.2.1 dX3_isFinite_13 (by decide) ?_
    exact mz_zret Y dX3_isFinite_17 hH hS hc hs hr
set_option maxRecDepth 100000 in
theorem ct_X3_isFinite (l : Launch) (g : mz_G) (h : mz_H) (j0 : Int64) (r : Int32) (hf : mz_H) (k n : Nat) (hr : fn_X3_isFinite h j0 = some (r, hf, k, n)) : mz_C l g yX3_isFinite cX3_isFinite 2 (some .boolean) 0 0 [.long j0] h (some (Value.int r)) hf k n := by
  refine mz_met (as := [(true, .long j0)]) (plainFor_of_name (by decide)) (mz_c1 rfl mz_c0) (Nat.le_of_ble_eq_true rfl) ?_
  intro p e s m args below meth c Y
  exact pf_X3_isFinite_b0 r Y h j0 _ _ hr
theorem dX3_digitsOf_0 : decode cX3_digitsOf 0 = .ok (.lload_n 0, 1) := by decide +kernel
theorem dX3_digitsOf_1 : decode cX3_digitsOf 1 = .ok (.ldc2_w 71, 3) := by decide +kernel
theorem dX3_digitsOf_4 : decode cX3_digitsOf 4 = .ok (.land, 1) := by decide +kernel
theorem dX3_digitsOf_5 : decode cX3_digitsOf 5 = .ok (.lstore_n 2, 1) := by decide +kernel
theorem dX3_digitsOf_6 : decode cX3_digitsOf 6 = .ok (.lload_n 0, 1) := by decide +kernel
theorem dX3_digitsOf_7 : decode cX3_digitsOf 7 = .ok (.ldc2_w 29, 3) := by decide +kernel
theorem dX3_digitsOf_10 : decode cX3_digitsOf 10 = .ok (.land, 1) := by decide +kernel
theorem dX3_digitsOf_11 : decode cX3_digitsOf 11 = .ok (.lconst 0, 1) := by decide +kernel
theorem dX3_digitsOf_12 : decode cX3_digitsOf 12 = .ok (.lcmp, 1) := by decide +kernel
theorem dX3_digitsOf_13 : decode cX3_digitsOf 13 = .ok (.ifCond .ne 7, 3) := by decide +kernel
theorem dX3_digitsOf_16 : decode cX3_digitsOf 16 = .ok (.lload_n 2, 1) := by decide +kernel
theorem dX3_digitsOf_17 : decode cX3_digitsOf 17 = .ok (.goto 8, 3) := by decide +kernel
theorem dX3_digitsOf_20 : decode cX3_digitsOf 20 = .ok (.lload_n 2, 1) := by decide +kernel
theorem dX3_digitsOf_21 : decode cX3_digitsOf 21 = .ok (.ldc2_w 73, 3) := by decide +kernel
theorem dX3_digitsOf_24 : decode cX3_digitsOf 24 = .ok (.lor, 1) := by decide +kernel
theorem dX3_digitsOf_25 : decode cX3_digitsOf 25 = .ok (.lreturn, 1) := by decide +kernel
def fn_X3_digitsOf (h : mz_H) (j0 : Int64) : mz_Res Int64 :=
  mz_op (some (j0 &&& 4503599627370495)) fun v1 =>
  if (lg_cmp (j0 &&& 9218868437227405312) 0) = 0 then
    mz_ret v1 h
  else
    mz_ret (v1 ||| 4503599627370496) h
set_option maxHeartbeats 4000000 in
set_option maxRecDepth 100000 in
theorem pf_X3_digitsOf_b0 (r : Int64) (Y : mz_Y p g RX3 cX3_digitsOf 4 (some .long) "digitsOf" (mz_AF h0) s m args meth c) (h : mz_H) (j0 : Int64) (dc ds : Nat) (hr : fn_X3_digitsOf h j0 = some (r, hf, dc, ds)) : mz_Go l g p e s m args below meth c 0 0 DC DS h0 (some (Value.long r)) hf 4 0 [(0, true, .long j0)] [] h dc ds := by
  unfold fn_X3_digitsOf at hr
  intro H locs cells slots ls hH hS hl hc hs
  have X := Y.1
  refine lv_lload_n X.1 X.2.1 dX3_digitsOf_0 rfl (mz_at hl 0 rfl) ?_
  refine mz_ldc2 (v := 4503599627370495) X (mz_tb 687 (by decide +kernel) rfl) dX3_digitsOf_1 ?_
  refine lv_land X.1 X.2.1 dX3_digitsOf_4 ?_
  refine mz_topl hr (fun v1 hv1 hr => ?_)
  refine mz_lstore_n X [(2, true, .long v1), (0, true, .long j0)] dX3_digitsOf_5 rfl hl (by decide) rfl (fun ls hl => ?_)
  refine lv_lload_n X.1 X.2.1 dX3_digitsOf_6 rfl (mz_at hl 1 rfl) ?_
  refine mz_ldc2 (v := 9218868437227405312) X (mz_tb 678 (by decide +kernel) rfl) dX3_digitsOf_7 ?_
  refine lv_land X.1 X.2.1 dX3_digitsOf_10 ?_
  refine lv_lconst (v := 0) X.1 X.2.1 dX3_digitsOf_11 (by decide) ?_
  refine W.lcmp X.1 X.2.1 dX3_digitsOf_12 ?_
  refine mz_if_ne X 20 dX3_digitsOf_13 (by decide) hr (fun hr => ?_) (fun hr => ?_)
  · refine lv_lload_n X.1 X.2.1 dX3_digitsOf_20 rfl (mz_at hl 0 rfl) ?_
    refine mz_ldc2 (v := 4503599627370496) X (mz_tb 688 (by decide +kernel) rfl) dX3_digitsOf_21 ?_
    refine lv_lor X.1 X.2.1 dX3_digitsOf_24 ?_
    exact mz_lret Y dX3_digitsOf_25 hH hS hc hs hr
  · refine lv_lload_n X.1 X.2.1 dX3_digitsOf_16 rfl (mz_at hl 0 rfl) ?_
    refine lv_goto (tgt := 25) X.1 X.2.1 dX3_digitsOf_17 (by decide) ?_
    exact mz_lret Y dX3_digitsOf_25 hH hS hc hs hr
set_option maxRecDepth 100000 in
theorem ct_X3_digitsOf (l : Launch) (g : mz_G) (h : mz_H) (j0 : Int64) (r : Int64) (hf : mz_H) (k n : Nat) (hr : fn_X3_digitsOf h j0 = some (r, hf, k, n)) : mz_C l g yX3_digitsOf cX3_digitsOf 4 (some .long) 0 0 [.long j0] h (some (Value.long r)) hf k n := by
  refine mz_met (as := [(true, .long j0)]) (plainFor_of_name (by decide)) (mz_c1 rfl mz_c0) (Nat.le_of_ble_eq_true rfl) ?_
  intro p e s m args below meth c Y
  exact pf_X3_digitsOf_b0 r Y h j0 _ _ hr
theorem dX3_powerOf_0 : decode cX3_powerOf 0 = .ok (.lload_n 0, 1) := by decide +kernel
theorem dX3_powerOf_1 : decode cX3_powerOf 1 = .ok (.ldc2_w 29, 3) := by decide +kernel
theorem dX3_powerOf_4 : decode cX3_powerOf 4 = .ok (.land, 1) := by decide +kernel
theorem dX3_powerOf_5 : decode cX3_powerOf 5 = .ok (.bipush 52, 2) := by decide +kernel
theorem dX3_powerOf_7 : decode cX3_powerOf 7 = .ok (.lushr, 1) := by decide +kernel
theorem dX3_powerOf_8 : decode cX3_powerOf 8 = .ok (.l2i, 1) := by decide +kernel
theorem dX3_powerOf_9 : decode cX3_powerOf 9 = .ok (.istore_n 2, 1) := by decide +kernel
theorem dX3_powerOf_10 : decode cX3_powerOf 10 = .ok (.iload_n 2, 1) := by decide +kernel
theorem dX3_powerOf_11 : decode cX3_powerOf 11 = .ok (.iconst 1, 1) := by decide +kernel
theorem dX3_powerOf_12 : decode cX3_powerOf 12 = .ok (.invokestatic 75, 3) := by decide +kernel
theorem dX3_powerOf_15 : decode cX3_powerOf 15 = .ok (.iconst 1, 1) := by decide +kernel
theorem dX3_powerOf_16 : decode cX3_powerOf 16 = .ok (.isub, 1) := by decide +kernel
theorem dX3_powerOf_17 : decode cX3_powerOf 17 = .ok (.sipush (-1074), 3) := by decide +kernel
theorem dX3_powerOf_20 : decode cX3_powerOf 20 = .ok (.iadd, 1) := by decide +kernel
theorem dX3_powerOf_21 : decode cX3_powerOf 21 = .ok (.ireturn, 1) := by decide +kernel
def fn_X3_powerOf (h : mz_H) (j0 : Int64) : mz_Res Int32 :=
  mz_op (some (((mz_ushr (j0 &&& 9218868437227405312) 52) : Int64).toInt32)) fun v1 =>
  mz_ret (((if v1 < 1 then 1 else v1) - 1) + (-1074)) h
set_option maxHeartbeats 4000000 in
set_option maxRecDepth 100000 in
theorem pf_X3_powerOf_b0 (r : Int32) (Y : mz_Y p g RX3 cX3_powerOf 3 (some .int) "powerOf" (mz_AF h0) s m args meth c) (h : mz_H) (j0 : Int64) (dc ds : Nat) (hr : fn_X3_powerOf h j0 = some (r, hf, dc, ds)) : mz_Go l g p e s m args below meth c 1 21 DC DS h0 (some (Value.int r)) hf 3 0 [(0, true, .long j0)] [] h dc ds := by
  unfold fn_X3_powerOf at hr
  intro H locs cells slots ls hH hS hl hc hs
  have X := Y.1
  refine lv_lload_n X.1 X.2.1 dX3_powerOf_0 rfl (mz_at hl 0 rfl) ?_
  refine mz_ldc2 (v := 9218868437227405312) X (mz_tb 678 (by decide +kernel) rfl) dX3_powerOf_1 ?_
  refine lv_land X.1 X.2.1 dX3_powerOf_4 ?_
  refine lv_bipush (v := 52) X.1 X.2.1 dX3_powerOf_5 (by decide) ?_
  refine lv_lushr (v := (mz_ushr (j0 &&& 9218868437227405312) 52)) X.1 X.2.1 dX3_powerOf_7 rfl ?_
  refine lv_l2i (v := (((mz_ushr (j0 &&& 9218868437227405312) 52) : Int64).toInt32)) X.1 X.2.1 dX3_powerOf_8 rfl ?_
  refine mz_topi hr (fun v1 hv1 hr => ?_)
  refine mz_istore_n X [(2, false, .int v1), (0, true, .long j0)] dX3_powerOf_9 rfl hl (by decide) rfl (fun ls hl => ?_)
  refine lv_iload_n X.1 X.2.1 dX3_powerOf_10 rfl (mz_at hl 0 rfl) ?_
  refine lv_iconst (v := 1) X.1 X.2.1 dX3_powerOf_11 (by decide) ?_
  refine mz_max X hl.1.1 mx_RX3_75 (Nat.le_of_ble_eq_true rfl) ⟨Nat.le_of_ble_eq_true rfl, Nat.le_of_ble_eq_true rfl⟩ hc hs dX3_powerOf_12 ?_
  refine lv_iconst (v := 1) X.1 X.2.1 dX3_powerOf_15 (by decide) ?_
  refine lv_isub X.1 X.2.1 dX3_powerOf_16 ?_
  refine lv_sipush (v := (-1074)) X.1 X.2.1 dX3_powerOf_17 (by decide) ?_
  refine lv_iadd X.1 X.2.1 dX3_powerOf_20 ?_
  exact mz_iret Y dX3_powerOf_21 hH hS hc hs hr
set_option maxRecDepth 100000 in
theorem ct_X3_powerOf (l : Launch) (g : mz_G) (h : mz_H) (j0 : Int64) (r : Int32) (hf : mz_H) (k n : Nat) (hr : fn_X3_powerOf h j0 = some (r, hf, k, n)) : mz_C l g yX3_powerOf cX3_powerOf 3 (some .int) 1 21 [.long j0] h (some (Value.int r)) hf k n := by
  refine mz_met (as := [(true, .long j0)]) (plainFor_of_name (by decide)) (mz_c1 rfl mz_c0) (Nat.le_of_ble_eq_true rfl) ?_
  intro p e s m args below meth c Y
  exact pf_X3_powerOf_b0 r Y h j0 _ _ hr
theorem dX3_lengthOf_0 : decode cX3_lengthOf 0 = .ok (.bipush 64, 2) := by decide +kernel
theorem dX3_lengthOf_2 : decode cX3_lengthOf 2 = .ok (.istore_n 2, 1) := by decide +kernel
theorem dX3_lengthOf_3 : decode cX3_lengthOf 3 = .ok (.iload_n 2, 1) := by decide +kernel
theorem dX3_lengthOf_4 : decode cX3_lengthOf 4 = .ok (.ifCond .le 19, 3) := by decide +kernel
theorem dX3_lengthOf_7 : decode cX3_lengthOf 7 = .ok (.lload_n 0, 1) := by decide +kernel
theorem dX3_lengthOf_8 : decode cX3_lengthOf 8 = .ok (.iload_n 2, 1) := by decide +kernel
theorem dX3_lengthOf_9 : decode cX3_lengthOf 9 = .ok (.iconst 1, 1) := by decide +kernel
theorem dX3_lengthOf_10 : decode cX3_lengthOf 10 = .ok (.isub, 1) := by decide +kernel
theorem dX3_lengthOf_11 : decode cX3_lengthOf 11 = .ok (.lushr, 1) := by decide +kernel
theorem dX3_lengthOf_12 : decode cX3_lengthOf 12 = .ok (.lconst 0, 1) := by decide +kernel
theorem dX3_lengthOf_13 : decode cX3_lengthOf 13 = .ok (.lcmp, 1) := by decide +kernel
theorem dX3_lengthOf_14 : decode cX3_lengthOf 14 = .ok (.ifCond .ne 9, 3) := by decide +kernel
theorem dX3_lengthOf_17 : decode cX3_lengthOf 17 = .ok (.iinc 2 (-1), 3) := by decide +kernel
theorem dX3_lengthOf_20 : decode cX3_lengthOf 20 = .ok (.goto (-17), 3) := by decide +kernel
theorem dX3_lengthOf_23 : decode cX3_lengthOf 23 = .ok (.iload_n 2, 1) := by decide +kernel
theorem dX3_lengthOf_24 : decode cX3_lengthOf 24 = .ok (.ireturn, 1) := by decide +kernel
def fn_X3_lengthOf_b3 : Nat → mz_H → Int64 → Int32 → mz_Res Int32
  | 0, _, _, _ => none
  | n + 1, h, j0, x2 =>
    if x2 ≤ 0 then
      mz_ret x2 h
    else
      if (lg_cmp (mz_ushr j0 (x2 - 1)) 0) = 0 then
        mz_op (some (x2 + (-1))) fun v1 =>
        fn_X3_lengthOf_b3 n h j0 v1
      else
        mz_ret x2 h
set_option maxHeartbeats 4000000 in
set_option maxRecDepth 100000 in
theorem pf_X3_lengthOf_b3 (r : Int32) (Y : mz_Y p g RX3 cX3_lengthOf 3 (some .int) "lengthOf" (mz_AF h0) s m args meth c) : ∀ (n : Nat) (h : mz_H) (j0 : Int64) (x2 : Int32) (dc ds : Nat), fn_X3_lengthOf_b3 n h j0 x2 = some (r, hf, dc, ds) → mz_Go l g p e s m args below meth c 0 0 DC DS h0 (some (Value.int r)) hf 3 3 [(0, true, .long j0), (2, false, .int x2)] [] h dc ds := by
  have X := Y.1
  intro n
  induction n with
  | zero => intro h j0 x2 dc ds hr; simp [fn_X3_lengthOf_b3] at hr
  | succ n ih =>
    intro h j0 x2 dc ds hr
    rw [fn_X3_lengthOf_b3] at hr
    intro H locs cells slots ls hH hS hl hc hs
    refine lv_iload_n X.1 X.2.1 dX3_lengthOf_3 rfl (mz_at hl 1 rfl) ?_
    refine mz_if_le X 23 dX3_lengthOf_4 (by decide) hr (fun hr => ?_) (fun hr => ?_)
    · refine lv_iload_n X.1 X.2.1 dX3_lengthOf_23 rfl (mz_at hl 1 rfl) ?_
      exact mz_iret Y dX3_lengthOf_24 hH hS hc hs hr
    · refine lv_lload_n X.1 X.2.1 dX3_lengthOf_7 rfl (mz_at hl 0 rfl) ?_
      refine lv_iload_n X.1 X.2.1 dX3_lengthOf_8 rfl (mz_at hl 1 rfl) ?_
      refine lv_iconst (v := 1) X.1 X.2.1 dX3_lengthOf_9 (by decide) ?_
      refine lv_isub X.1 X.2.1 dX3_lengthOf_10 ?_
      refine lv_lushr (v := (mz_ushr j0 (x2 - 1))) X.1 X.2.1 dX3_lengthOf_11 rfl ?_
      refine lv_lconst (v := 0) X.1 X.2.1 dX3_lengthOf_12 (by decide) ?_
      refine W.lcmp X.1 X.2.1 dX3_lengthOf_13 ?_
      refine mz_if_ne X 23 dX3_lengthOf_14 (by decide) hr (fun hr => ?_) (fun hr => ?_)
      · refine lv_iload_n X.1 X.2.1 dX3_lengthOf_23 rfl (mz_at hl 1 rfl) ?_
        exact mz_iret Y dX3_lengthOf_24 hH hS hc hs hr
      · obtain ⟨v1, hv1, hr⟩ := mz_op_some hr
        have hv1 := Option.some.inj hv1
        refine mz_iinc (k := 1) X [(2, false, .int v1), (0, true, .long j0)] v1 dX3_lengthOf_17 hl rfl hv1 (by decide) rfl (fun ls hl => ?_)
        refine lv_goto (tgt := 3) X.1 X.2.1 dX3_lengthOf_20 (by decide) ?_
        exact ih h j0 v1 _ _ hr H locs cells slots ls hH hS (mz_sub hl [1, 0] rfl) hc hs
def fn_X3_lengthOf (h : mz_H) (j0 : Int64) : mz_Res Int32 :=
  fn_X3_lengthOf_b3 1001 h j0 64
set_option maxHeartbeats 4000000 in
set_option maxRecDepth 100000 in
theorem pf_X3_lengthOf_b0 (r : Int32) (Y : mz_Y p g RX3 cX3_lengthOf 3 (some .int) "lengthOf" (mz_AF h0) s m args meth c) (h : mz_H) (j0 : Int64) (dc ds : Nat) (hr : fn_X3_lengthOf h j0 = some (r, hf, dc, ds)) : mz_Go l g p e s m args below meth c 0 0 DC DS h0 (some (Value.int r)) hf 3 0 [(0, true, .long j0)] [] h dc ds := by
  unfold fn_X3_lengthOf at hr
  intro H locs cells slots ls hH hS hl hc hs
  have X := Y.1
  refine lv_bipush (v := 64) X.1 X.2.1 dX3_lengthOf_0 (by decide) ?_
  refine mz_istore_n X [(2, false, .int 64), (0, true, .long j0)] dX3_lengthOf_2 rfl hl (by decide) rfl (fun ls hl => ?_)
  exact pf_X3_lengthOf_b3 r Y 1001 h j0 64 _ _ hr H locs cells slots ls hH hS (mz_sub hl [1, 0] rfl) hc hs
set_option maxRecDepth 100000 in
theorem ct_X3_lengthOf (l : Launch) (g : mz_G) (h : mz_H) (j0 : Int64) (r : Int32) (hf : mz_H) (k n : Nat) (hr : fn_X3_lengthOf h j0 = some (r, hf, k, n)) : mz_C l g yX3_lengthOf cX3_lengthOf 3 (some .int) 0 0 [.long j0] h (some (Value.int r)) hf k n := by
  refine mz_met (as := [(true, .long j0)]) (plainFor_of_name (by decide)) (mz_c1 rfl mz_c0) (Nat.le_of_ble_eq_true rfl) ?_
  intro p e s m args below meth c Y
  exact pf_X3_lengthOf_b0 r Y h j0 _ _ hr
theorem dX3_withoutDigits_0 : decode cX3_withoutDigits 0 = .ok (.iload_n 2, 1) := by decide +kernel
theorem dX3_withoutDigits_1 : decode cX3_withoutDigits 1 = .ok (.ifCond .le 9, 3) := by decide +kernel
theorem dX3_withoutDigits_4 : decode cX3_withoutDigits 4 = .ok (.iload_n 2, 1) := by decide +kernel
theorem dX3_withoutDigits_5 : decode cX3_withoutDigits 5 = .ok (.bipush 64, 2) := by decide +kernel
theorem dX3_withoutDigits_7 : decode cX3_withoutDigits 7 = .ok (.if_icmp .le 13, 3) := by decide +kernel
theorem dX3_withoutDigits_10 : decode cX3_withoutDigits 10 = .ok (.iload_n 2, 1) := by decide +kernel
theorem dX3_withoutDigits_11 : decode cX3_withoutDigits 11 = .ok (.ifCond .gt 7, 3) := by decide +kernel
theorem dX3_withoutDigits_14 : decode cX3_withoutDigits 14 = .ok (.lload_n 0, 1) := by decide +kernel
theorem dX3_withoutDigits_15 : decode cX3_withoutDigits 15 = .ok (.goto 4, 3) := by decide +kernel
theorem dX3_withoutDigits_18 : decode cX3_withoutDigits 18 = .ok (.lconst 0, 1) := by decide +kernel
theorem dX3_withoutDigits_19 : decode cX3_withoutDigits 19 = .ok (.lreturn, 1) := by decide +kernel
theorem dX3_withoutDigits_20 : decode cX3_withoutDigits 20 = .ok (.iload_n 2, 1) := by decide +kernel
theorem dX3_withoutDigits_21 : decode cX3_withoutDigits 21 = .ok (.bipush 64, 2) := by decide +kernel
theorem dX3_withoutDigits_23 : decode cX3_withoutDigits 23 = .ok (.if_icmp .ne 7, 3) := by decide +kernel
theorem dX3_withoutDigits_26 : decode cX3_withoutDigits 26 = .ok (.lconst 0, 1) := by decide +kernel
theorem dX3_withoutDigits_27 : decode cX3_withoutDigits 27 = .ok (.goto 6, 3) := by decide +kernel
theorem dX3_withoutDigits_30 : decode cX3_withoutDigits 30 = .ok (.lload_n 0, 1) := by decide +kernel
theorem dX3_withoutDigits_31 : decode cX3_withoutDigits 31 = .ok (.iload_n 2, 1) := by decide +kernel
theorem dX3_withoutDigits_32 : decode cX3_withoutDigits 32 = .ok (.lushr, 1) := by decide +kernel
theorem dX3_withoutDigits_33 : decode cX3_withoutDigits 33 = .ok (.lstore_n 3, 1) := by decide +kernel
theorem dX3_withoutDigits_34 : decode cX3_withoutDigits 34 = .ok (.lload_n 0, 1) := by decide +kernel
theorem dX3_withoutDigits_35 : decode cX3_withoutDigits 35 = .ok (.bipush 64, 2) := by decide +kernel
theorem dX3_withoutDigits_37 : decode cX3_withoutDigits 37 = .ok (.iload_n 2, 1) := by decide +kernel
theorem dX3_withoutDigits_38 : decode cX3_withoutDigits 38 = .ok (.isub, 1) := by decide +kernel
theorem dX3_withoutDigits_39 : decode cX3_withoutDigits 39 = .ok (.lshl, 1) := by decide +kernel
theorem dX3_withoutDigits_40 : decode cX3_withoutDigits 40 = .ok (.lstore 5, 2) := by decide +kernel
theorem dX3_withoutDigits_42 : decode cX3_withoutDigits 42 = .ok (.lload 5, 2) := by decide +kernel
theorem dX3_withoutDigits_44 : decode cX3_withoutDigits 44 = .ok (.ldc2_w 33, 3) := by decide +kernel
theorem dX3_withoutDigits_47 : decode cX3_withoutDigits 47 = .ok (.lcmp, 1) := by decide +kernel
theorem dX3_withoutDigits_48 : decode cX3_withoutDigits 48 = .ok (.ifCond .ne 7, 3) := by decide +kernel
theorem dX3_withoutDigits_51 : decode cX3_withoutDigits 51 = .ok (.iconst 1, 1) := by decide +kernel
theorem dX3_withoutDigits_52 : decode cX3_withoutDigits 52 = .ok (.goto 4, 3) := by decide +kernel
theorem dX3_withoutDigits_55 : decode cX3_withoutDigits 55 = .ok (.iconst 0, 1) := by decide +kernel
theorem dX3_withoutDigits_56 : decode cX3_withoutDigits 56 = .ok (.istore 7, 2) := by decide +kernel
theorem dX3_withoutDigits_58 : decode cX3_withoutDigits 58 = .ok (.lload 5, 2) := by decide +kernel
theorem dX3_withoutDigits_60 : decode cX3_withoutDigits 60 = .ok (.lconst 0, 1) := by decide +kernel
theorem dX3_withoutDigits_61 : decode cX3_withoutDigits 61 = .ok (.lcmp, 1) := by decide +kernel
theorem dX3_withoutDigits_62 : decode cX3_withoutDigits 62 = .ok (.ifCond .ge 12, 3) := by decide +kernel
theorem dX3_withoutDigits_65 : decode cX3_withoutDigits 65 = .ok (.iload 7, 2) := by decide +kernel
theorem dX3_withoutDigits_67 : decode cX3_withoutDigits 67 = .ok (.ifCond .ne 7, 3) := by decide +kernel
theorem dX3_withoutDigits_70 : decode cX3_withoutDigits 70 = .ok (.iconst 1, 1) := by decide +kernel
theorem dX3_withoutDigits_71 : decode cX3_withoutDigits 71 = .ok (.goto 4, 3) := by decide +kernel
theorem dX3_withoutDigits_74 : decode cX3_withoutDigits 74 = .ok (.iconst 0, 1) := by decide +kernel
theorem dX3_withoutDigits_75 : decode cX3_withoutDigits 75 = .ok (.istore 8, 2) := by decide +kernel
theorem dX3_withoutDigits_77 : decode cX3_withoutDigits 77 = .ok (.iload 8, 2) := by decide +kernel
theorem dX3_withoutDigits_79 : decode cX3_withoutDigits 79 = .ok (.ifCond .ne 16, 3) := by decide +kernel
theorem dX3_withoutDigits_82 : decode cX3_withoutDigits 82 = .ok (.iload 7, 2) := by decide +kernel
theorem dX3_withoutDigits_84 : decode cX3_withoutDigits 84 = .ok (.ifCond .eq 17, 3) := by decide +kernel
theorem dX3_withoutDigits_87 : decode cX3_withoutDigits 87 = .ok (.lload_n 3, 1) := by decide +kernel
theorem dX3_withoutDigits_88 : decode cX3_withoutDigits 88 = .ok (.lconst 1, 1) := by decide +kernel
theorem dX3_withoutDigits_89 : decode cX3_withoutDigits 89 = .ok (.land, 1) := by decide +kernel
theorem dX3_withoutDigits_90 : decode cX3_withoutDigits 90 = .ok (.lconst 0, 1) := by decide +kernel
theorem dX3_withoutDigits_91 : decode cX3_withoutDigits 91 = .ok (.lcmp, 1) := by decide +kernel
theorem dX3_withoutDigits_92 : decode cX3_withoutDigits 92 = .ok (.ifCond .eq 9, 3) := by decide +kernel
theorem dX3_withoutDigits_95 : decode cX3_withoutDigits 95 = .ok (.lload_n 3, 1) := by decide +kernel
theorem dX3_withoutDigits_96 : decode cX3_withoutDigits 96 = .ok (.lconst 1, 1) := by decide +kernel
theorem dX3_withoutDigits_97 : decode cX3_withoutDigits 97 = .ok (.ladd, 1) := by decide +kernel
theorem dX3_withoutDigits_98 : decode cX3_withoutDigits 98 = .ok (.goto 4, 3) := by decide +kernel
theorem dX3_withoutDigits_101 : decode cX3_withoutDigits 101 = .ok (.lload_n 3, 1) := by decide +kernel
theorem dX3_withoutDigits_102 : decode cX3_withoutDigits 102 = .ok (.lreturn, 1) := by decide +kernel
def fn_X3_withoutDigits_b95 (h : mz_H) (j3 : Int64) : mz_Res Int64 :=
  mz_ret (j3 + 1) h
set_option maxHeartbeats 4000000 in
set_option maxRecDepth 100000 in
theorem pf_X3_withoutDigits_b95 (r : Int64) (Y : mz_Y p g RX3 cX3_withoutDigits 9 (some .long) "withoutDigits" (mz_AF h0) s m args meth c) (h : mz_H) (j3 : Int64) (dc ds : Nat) (hr : fn_X3_withoutDigits_b95 h j3 = some (r, hf, dc, ds)) : mz_Go l g p e s m args below meth c 0 0 DC DS h0 (some (Value.long r)) hf 9 95 [(3, true, .long j3)] [] h dc ds := by
  unfold fn_X3_withoutDigits_b95 at hr
  intro H locs cells slots ls hH hS hl hc hs
  have X := Y.1
  refine lv_lload_n X.1 X.2.1 dX3_withoutDigits_95 rfl (mz_at hl 0 rfl) ?_
  refine lv_lconst (v := 1) X.1 X.2.1 dX3_withoutDigits_96 (by decide) ?_
  refine lv_ladd X.1 X.2.1 dX3_withoutDigits_97 ?_
  refine lv_goto (tgt := 102) X.1 X.2.1 dX3_withoutDigits_98 (by decide) ?_
  exact mz_lret Y dX3_withoutDigits_102 hH hS hc hs hr
def fn_X3_withoutDigits_b75 (h : mz_H) (j3 : Int64) (x7 : Int32) (s0 : Int32) : mz_Res Int64 :=
  if s0 = 0 then
    if x7 = 0 then
      mz_ret j3 h
    else
      if (lg_cmp (j3 &&& 1) 0) = 0 then
        mz_ret j3 h
      else
        fn_X3_withoutDigits_b95 h j3
  else
    fn_X3_withoutDigits_b95 h j3
set_option maxHeartbeats 4000000 in
set_option maxRecDepth 100000 in
theorem pf_X3_withoutDigits_b75 (r : Int64) (Y : mz_Y p g RX3 cX3_withoutDigits 9 (some .long) "withoutDigits" (mz_AF h0) s m args meth c) (h : mz_H) (j3 : Int64) (x7 : Int32) (s0 : Int32) (dc ds : Nat) (hr : fn_X3_withoutDigits_b75 h j3 x7 s0 = some (r, hf, dc, ds)) : mz_Go l g p e s m args below meth c 0 0 DC DS h0 (some (Value.long r)) hf 9 75 [(3, true, .long j3), (7, false, .int x7)] [.int s0] h dc ds := by
  unfold fn_X3_withoutDigits_b75 at hr
  intro H locs cells slots ls hH hS hl hc hs
  have X := Y.1
  refine mz_istore X [(8, false, .int s0), (3, true, .long j3), (7, false, .int x7)] dX3_withoutDigits_75 hl (by decide) rfl (fun ls hl => ?_)
  refine lv_iload X.1 X.2.1 dX3_withoutDigits_77 (mz_at hl 0 rfl) ?_
  refine mz_if_ne X 95 dX3_withoutDigits_79 (by decide) hr (fun hr => ?_) (fun hr => ?_)
  · exact pf_X3_withoutDigits_b95 r Y h j3 _ _ hr H locs cells slots ls hH hS (mz_sub hl [1] rfl) hc hs
  · refine lv_iload X.1 X.2.1 dX3_withoutDigits_82 (mz_at hl 2 rfl) ?_
    refine mz_if_eq X 101 dX3_withoutDigits_84 (by decide) hr (fun hr => ?_) (fun hr => ?_)
    · refine lv_lload_n X.1 X.2.1 dX3_withoutDigits_101 rfl (mz_at hl 1 rfl) ?_
      exact mz_lret Y dX3_withoutDigits_102 hH hS hc hs hr
    · refine lv_lload_n X.1 X.2.1 dX3_withoutDigits_87 rfl (mz_at hl 1 rfl) ?_
      refine lv_lconst (v := 1) X.1 X.2.1 dX3_withoutDigits_88 (by decide) ?_
      refine lv_land X.1 X.2.1 dX3_withoutDigits_89 ?_
      refine lv_lconst (v := 0) X.1 X.2.1 dX3_withoutDigits_90 (by decide) ?_
      refine W.lcmp X.1 X.2.1 dX3_withoutDigits_91 ?_
      refine mz_if_eq X 101 dX3_withoutDigits_92 (by decide) hr (fun hr => ?_) (fun hr => ?_)
      · refine lv_lload_n X.1 X.2.1 dX3_withoutDigits_101 rfl (mz_at hl 1 rfl) ?_
        exact mz_lret Y dX3_withoutDigits_102 hH hS hc hs hr
      · exact pf_X3_withoutDigits_b95 r Y h j3 _ _ hr H locs cells slots ls hH hS (mz_sub hl [1] rfl) hc hs
def fn_X3_withoutDigits_b74 (h : mz_H) (j3 : Int64) (x7 : Int32) : mz_Res Int64 :=
  fn_X3_withoutDigits_b75 h j3 x7 0
set_option maxHeartbeats 4000000 in
set_option maxRecDepth 100000 in
theorem pf_X3_withoutDigits_b74 (r : Int64) (Y : mz_Y p g RX3 cX3_withoutDigits 9 (some .long) "withoutDigits" (mz_AF h0) s m args meth c) (h : mz_H) (j3 : Int64) (x7 : Int32) (dc ds : Nat) (hr : fn_X3_withoutDigits_b74 h j3 x7 = some (r, hf, dc, ds)) : mz_Go l g p e s m args below meth c 0 0 DC DS h0 (some (Value.long r)) hf 9 74 [(3, true, .long j3), (7, false, .int x7)] [] h dc ds := by
  unfold fn_X3_withoutDigits_b74 at hr
  intro H locs cells slots ls hH hS hl hc hs
  have X := Y.1
  refine lv_iconst (v := 0) X.1 X.2.1 dX3_withoutDigits_74 (by decide) ?_
  exact pf_X3_withoutDigits_b75 r Y h j3 x7 0 _ _ hr H locs cells slots ls hH hS (mz_sub hl [0, 1] rfl) hc hs
def fn_X3_withoutDigits_b56 (h : mz_H) (j3 : Int64) (j5 : Int64) (s0 : Int32) : mz_Res Int64 :=
  if 0 ≤ (lg_cmp j5 0) then
    fn_X3_withoutDigits_b74 h j3 s0
  else
    if s0 = 0 then
      fn_X3_withoutDigits_b75 h j3 s0 1
    else
      fn_X3_withoutDigits_b74 h j3 s0
set_option maxHeartbeats 4000000 in
set_option maxRecDepth 100000 in
theorem pf_X3_withoutDigits_b56 (r : Int64) (Y : mz_Y p g RX3 cX3_withoutDigits 9 (some .long) "withoutDigits" (mz_AF h0) s m args meth c) (h : mz_H) (j3 : Int64) (j5 : Int64) (s0 : Int32) (dc ds : Nat) (hr : fn_X3_withoutDigits_b56 h j3 j5 s0 = some (r, hf, dc, ds)) : mz_Go l g p e s m args below meth c 0 0 DC DS h0 (some (Value.long r)) hf 9 56 [(3, true, .long j3), (5, true, .long j5)] [.int s0] h dc ds := by
  unfold fn_X3_withoutDigits_b56 at hr
  intro H locs cells slots ls hH hS hl hc hs
  have X := Y.1
  refine mz_istore X [(7, false, .int s0), (3, true, .long j3), (5, true, .long j5)] dX3_withoutDigits_56 hl (by decide) rfl (fun ls hl => ?_)
  refine lv_lload X.1 X.2.1 dX3_withoutDigits_58 (mz_at hl 2 rfl) ?_
  refine lv_lconst (v := 0) X.1 X.2.1 dX3_withoutDigits_60 (by decide) ?_
  refine W.lcmp X.1 X.2.1 dX3_withoutDigits_61 ?_
  refine mz_if_ge X 74 dX3_withoutDigits_62 (by decide) hr (fun hr => ?_) (fun hr => ?_)
  · exact pf_X3_withoutDigits_b74 r Y h j3 s0 _ _ hr H locs cells slots ls hH hS (mz_sub hl [1, 0] rfl) hc hs
  · refine lv_iload X.1 X.2.1 dX3_withoutDigits_65 (mz_at hl 0 rfl) ?_
    refine mz_if_ne X 74 dX3_withoutDigits_67 (by decide) hr (fun hr => ?_) (fun hr => ?_)
    · exact pf_X3_withoutDigits_b74 r Y h j3 s0 _ _ hr H locs cells slots ls hH hS (mz_sub hl [1, 0] rfl) hc hs
    · refine lv_iconst (v := 1) X.1 X.2.1 dX3_withoutDigits_70 (by decide) ?_
      refine lv_goto (tgt := 75) X.1 X.2.1 dX3_withoutDigits_71 (by decide) ?_
      exact pf_X3_withoutDigits_b75 r Y h j3 s0 1 _ _ hr H locs cells slots ls hH hS (mz_sub hl [1, 0] rfl) hc hs
def fn_X3_withoutDigits_b33 (h : mz_H) (j0 : Int64) (x2 : Int32) (s0 : Int64) : mz_Res Int64 :=
  mz_op (some (mz_shl j0 (64 - x2))) fun v1 =>
  if (lg_cmp v1 (-9223372036854775808)) = 0 then
    fn_X3_withoutDigits_b56 h s0 v1 1
  else
    fn_X3_withoutDigits_b56 h s0 v1 0
set_option maxHeartbeats 4000000 in
set_option maxRecDepth 100000 in
theorem pf_X3_withoutDigits_b33 (r : Int64) (Y : mz_Y p g RX3 cX3_withoutDigits 9 (some .long) "withoutDigits" (mz_AF h0) s m args meth c) (h : mz_H) (j0 : Int64) (x2 : Int32) (s0 : Int64) (dc ds : Nat) (hr : fn_X3_withoutDigits_b33 h j0 x2 s0 = some (r, hf, dc, ds)) : mz_Go l g p e s m args below meth c 0 0 DC DS h0 (some (Value.long r)) hf 9 33 [(0, true, .long j0), (2, false, .int x2)] [.long s0] h dc ds := by
  unfold fn_X3_withoutDigits_b33 at hr
  intro H locs cells slots ls hH hS hl hc hs
  have X := Y.1
  refine mz_lstore_n X [(3, true, .long s0), (0, true, .long j0), (2, false, .int x2)] dX3_withoutDigits_33 rfl hl (by decide) rfl (fun ls hl => ?_)
  refine lv_lload_n X.1 X.2.1 dX3_withoutDigits_34 rfl (mz_at hl 1 rfl) ?_
  refine lv_bipush (v := 64) X.1 X.2.1 dX3_withoutDigits_35 (by decide) ?_
  refine lv_iload_n X.1 X.2.1 dX3_withoutDigits_37 rfl (mz_at hl 2 rfl) ?_
  refine lv_isub X.1 X.2.1 dX3_withoutDigits_38 ?_
  refine lv_lshl (v := (mz_shl j0 (64 - x2))) X.1 X.2.1 dX3_withoutDigits_39 rfl ?_
  refine mz_topl hr (fun v1 hv1 hr => ?_)
  refine mz_lstore X [(5, true, .long v1), (3, true, .long s0), (0, true, .long j0), (2, false, .int x2)] dX3_withoutDigits_40 hl (by decide) rfl (fun ls hl => ?_)
  refine lv_lload X.1 X.2.1 dX3_withoutDigits_42 (mz_at hl 0 rfl) ?_
  refine mz_ldc2 (v := (-9223372036854775808)) X (mz_tb 683 (by decide +kernel) rfl) dX3_withoutDigits_44 ?_
  refine W.lcmp X.1 X.2.1 dX3_withoutDigits_47 ?_
  refine mz_if_ne X 55 dX3_withoutDigits_48 (by decide) hr (fun hr => ?_) (fun hr => ?_)
  · refine lv_iconst (v := 0) X.1 X.2.1 dX3_withoutDigits_55 (by decide) ?_
    exact pf_X3_withoutDigits_b56 r Y h s0 v1 0 _ _ hr H locs cells slots ls hH hS (mz_sub hl [1, 0] rfl) hc hs
  · refine lv_iconst (v := 1) X.1 X.2.1 dX3_withoutDigits_51 (by decide) ?_
    refine lv_goto (tgt := 56) X.1 X.2.1 dX3_withoutDigits_52 (by decide) ?_
    exact pf_X3_withoutDigits_b56 r Y h s0 v1 1 _ _ hr H locs cells slots ls hH hS (mz_sub hl [1, 0] rfl) hc hs
def fn_X3_withoutDigits_b10 (h : mz_H) (j0 : Int64) (x2 : Int32) : mz_Res Int64 :=
  if 0 < x2 then
    mz_ret 0 h
  else
    mz_ret j0 h
set_option maxHeartbeats 4000000 in
set_option maxRecDepth 100000 in
theorem pf_X3_withoutDigits_b10 (r : Int64) (Y : mz_Y p g RX3 cX3_withoutDigits 9 (some .long) "withoutDigits" (mz_AF h0) s m args meth c) (h : mz_H) (j0 : Int64) (x2 : Int32) (dc ds : Nat) (hr : fn_X3_withoutDigits_b10 h j0 x2 = some (r, hf, dc, ds)) : mz_Go l g p e s m args below meth c 0 0 DC DS h0 (some (Value.long r)) hf 9 10 [(0, true, .long j0), (2, false, .int x2)] [] h dc ds := by
  unfold fn_X3_withoutDigits_b10 at hr
  intro H locs cells slots ls hH hS hl hc hs
  have X := Y.1
  refine lv_iload_n X.1 X.2.1 dX3_withoutDigits_10 rfl (mz_at hl 1 rfl) ?_
  refine mz_if_gt X 18 dX3_withoutDigits_11 (by decide) hr (fun hr => ?_) (fun hr => ?_)
  · refine lv_lconst (v := 0) X.1 X.2.1 dX3_withoutDigits_18 (by decide) ?_
    exact mz_lret Y dX3_withoutDigits_19 hH hS hc hs hr
  · refine lv_lload_n X.1 X.2.1 dX3_withoutDigits_14 rfl (mz_at hl 0 rfl) ?_
    refine lv_goto (tgt := 19) X.1 X.2.1 dX3_withoutDigits_15 (by decide) ?_
    exact mz_lret Y dX3_withoutDigits_19 hH hS hc hs hr
def fn_X3_withoutDigits (h : mz_H) (j0 : Int64) (x2 : Int32) : mz_Res Int64 :=
  if x2 ≤ 0 then
    fn_X3_withoutDigits_b10 h j0 x2
  else
    if x2 ≤ 64 then
      if x2 = 64 then
        fn_X3_withoutDigits_b33 h j0 x2 0
      else
        fn_X3_withoutDigits_b33 h j0 x2 (mz_ushr j0 x2)
    else
      fn_X3_withoutDigits_b10 h j0 x2
set_option maxHeartbeats 4000000 in
set_option maxRecDepth 100000 in
theorem pf_X3_withoutDigits_b0 (r : Int64) (Y : mz_Y p g RX3 cX3_withoutDigits 9 (some .long) "withoutDigits" (mz_AF h0) s m args meth c) (h : mz_H) (j0 : Int64) (x2 : Int32) (dc ds : Nat) (hr : fn_X3_withoutDigits h j0 x2 = some (r, hf, dc, ds)) : mz_Go l g p e s m args below meth c 0 0 DC DS h0 (some (Value.long r)) hf 9 0 [(0, true, .long j0), (2, false, .int x2)] [] h dc ds := by
  unfold fn_X3_withoutDigits at hr
  intro H locs cells slots ls hH hS hl hc hs
  have X := Y.1
  refine lv_iload_n X.1 X.2.1 dX3_withoutDigits_0 rfl (mz_at hl 1 rfl) ?_
  refine mz_if_le X 10 dX3_withoutDigits_1 (by decide) hr (fun hr => ?_) (fun hr => ?_)
  · exact pf_X3_withoutDigits_b10 r Y h j0 x2 _ _ hr H locs cells slots ls hH hS (mz_sub hl [0, 1] rfl) hc hs
  · refine lv_iload_n X.1 X.2.1 dX3_withoutDigits_4 rfl (mz_at hl 1 rfl) ?_
    refine lv_bipush (v := 64) X.1 X.2.1 dX3_withoutDigits_5 (by decide) ?_
    refine mz_icmp_le X 20 dX3_withoutDigits_7 (by decide) hr (fun hr => ?_) (fun hr => ?_)
    · refine lv_iload_n X.1 X.2.1 dX3_withoutDigits_20 rfl (mz_at hl 1 rfl) ?_
      refine lv_bipush (v := 64) X.1 X.2.1 dX3_withoutDigits_21 (by decide) ?_
      refine mz_icmp_ne X 30 dX3_withoutDigits_23 (by decide) hr (fun hr => ?_) (fun hr => ?_)
      · refine lv_lload_n X.1 X.2.1 dX3_withoutDigits_30 rfl (mz_at hl 0 rfl) ?_
        refine lv_iload_n X.1 X.2.1 dX3_withoutDigits_31 rfl (mz_at hl 1 rfl) ?_
        refine lv_lushr (v := (mz_ushr j0 x2)) X.1 X.2.1 dX3_withoutDigits_32 rfl ?_
        exact pf_X3_withoutDigits_b33 r Y h j0 x2 (mz_ushr j0 x2) _ _ hr H locs cells slots ls hH hS (mz_sub hl [0, 1] rfl) hc hs
      · refine lv_lconst (v := 0) X.1 X.2.1 dX3_withoutDigits_26 (by decide) ?_
        refine lv_goto (tgt := 33) X.1 X.2.1 dX3_withoutDigits_27 (by decide) ?_
        exact pf_X3_withoutDigits_b33 r Y h j0 x2 0 _ _ hr H locs cells slots ls hH hS (mz_sub hl [0, 1] rfl) hc hs
    · exact pf_X3_withoutDigits_b10 r Y h j0 x2 _ _ hr H locs cells slots ls hH hS (mz_sub hl [0, 1] rfl) hc hs
set_option maxRecDepth 100000 in
theorem ct_X3_withoutDigits (l : Launch) (g : mz_G) (h : mz_H) (j0 : Int64) (x2 : Int32) (r : Int64) (hf : mz_H) (k n : Nat) (hr : fn_X3_withoutDigits h j0 x2 = some (r, hf, k, n)) : mz_C l g yX3_withoutDigits cX3_withoutDigits 9 (some .long) 0 0 [.long j0, .int x2] h (some (Value.long r)) hf k n := by
  refine mz_met (as := [(true, .long j0), (false, .int x2)]) (plainFor_of_name (by decide)) (mz_c1 rfl (mz_c1 rfl mz_c0)) (Nat.le_of_ble_eq_true rfl) ?_
  intro p e s m args below meth c Y
  exact pf_X3_withoutDigits_b0 r Y h j0 x2 _ _ hr
theorem dX3_packed_0 : decode cX3_packed 0 = .ok (.lload_n 2, 1) := by decide +kernel
theorem dX3_packed_1 : decode cX3_packed 1 = .ok (.invokestatic 66, 3) := by decide +kernel
theorem dX3_packed_4 : decode cX3_packed 4 = .ok (.istore 6, 2) := by decide +kernel
theorem dX3_packed_6 : decode cX3_packed 6 = .ok (.iload 6, 2) := by decide +kernel
theorem dX3_packed_8 : decode cX3_packed 8 = .ok (.ifCond .ne 5, 3) := by decide +kernel
theorem dX3_packed_11 : decode cX3_packed 11 = .ok (.lload_n 0, 1) := by decide +kernel
theorem dX3_packed_12 : decode cX3_packed 12 = .ok (.lreturn, 1) := by decide +kernel
theorem dX3_packed_13 : decode cX3_packed 13 = .ok (.iload 4, 2) := by decide +kernel
theorem dX3_packed_15 : decode cX3_packed 15 = .ok (.iload 6, 2) := by decide +kernel
theorem dX3_packed_17 : decode cX3_packed 17 = .ok (.iadd, 1) := by decide +kernel
theorem dX3_packed_18 : decode cX3_packed 18 = .ok (.iload 5, 2) := by decide +kernel
theorem dX3_packed_20 : decode cX3_packed 20 = .ok (.if_icmp .le 9, 3) := by decide +kernel
theorem dX3_packed_23 : decode cX3_packed 23 = .ok (.lload_n 0, 1) := by decide +kernel
theorem dX3_packed_24 : decode cX3_packed 24 = .ok (.ldc2_w 29, 3) := by decide +kernel
theorem dX3_packed_27 : decode cX3_packed 27 = .ok (.lor, 1) := by decide +kernel
theorem dX3_packed_28 : decode cX3_packed 28 = .ok (.lreturn, 1) := by decide +kernel
theorem dX3_packed_29 : decode cX3_packed 29 = .ok (.iload 4, 2) := by decide +kernel
theorem dX3_packed_31 : decode cX3_packed 31 = .ok (.iload 6, 2) := by decide +kernel
theorem dX3_packed_33 : decode cX3_packed 33 = .ok (.iadd, 1) := by decide +kernel
theorem dX3_packed_34 : decode cX3_packed 34 = .ok (.iconst 1, 1) := by decide +kernel
theorem dX3_packed_35 : decode cX3_packed 35 = .ok (.isub, 1) := by decide +kernel
theorem dX3_packed_36 : decode cX3_packed 36 = .ok (.sipush 1023, 3) := by decide +kernel
theorem dX3_packed_39 : decode cX3_packed 39 = .ok (.iadd, 1) := by decide +kernel
theorem dX3_packed_40 : decode cX3_packed 40 = .ok (.istore 7, 2) := by decide +kernel
theorem dX3_packed_42 : decode cX3_packed 42 = .ok (.iload 7, 2) := by decide +kernel
theorem dX3_packed_44 : decode cX3_packed 44 = .ok (.iconst 1, 1) := by decide +kernel
theorem dX3_packed_45 : decode cX3_packed 45 = .ok (.if_icmp .ge 14, 3) := by decide +kernel
theorem dX3_packed_48 : decode cX3_packed 48 = .ok (.lload_n 0, 1) := by decide +kernel
theorem dX3_packed_49 : decode cX3_packed 49 = .ok (.lload_n 2, 1) := by decide +kernel
theorem dX3_packed_50 : decode cX3_packed 50 = .ok (.iload 4, 2) := by decide +kernel
theorem dX3_packed_52 : decode cX3_packed 52 = .ok (.sipush (-1074), 3) := by decide +kernel
theorem dX3_packed_55 : decode cX3_packed 55 = .ok (.isub, 1) := by decide +kernel
theorem dX3_packed_56 : decode cX3_packed 56 = .ok (.lshl, 1) := by decide +kernel
theorem dX3_packed_57 : decode cX3_packed 57 = .ok (.lor, 1) := by decide +kernel
theorem dX3_packed_58 : decode cX3_packed 58 = .ok (.lreturn, 1) := by decide +kernel
theorem dX3_packed_59 : decode cX3_packed 59 = .ok (.bipush 53, 2) := by decide +kernel
theorem dX3_packed_61 : decode cX3_packed 61 = .ok (.iload 6, 2) := by decide +kernel
theorem dX3_packed_63 : decode cX3_packed 63 = .ok (.isub, 1) := by decide +kernel
theorem dX3_packed_64 : decode cX3_packed 64 = .ok (.istore 8, 2) := by decide +kernel
theorem dX3_packed_66 : decode cX3_packed 66 = .ok (.iload 8, 2) := by decide +kernel
theorem dX3_packed_68 : decode cX3_packed 68 = .ok (.ifCond .lt 10, 3) := by decide +kernel
theorem dX3_packed_71 : decode cX3_packed 71 = .ok (.lload_n 2, 1) := by decide +kernel
theorem dX3_packed_72 : decode cX3_packed 72 = .ok (.iload 8, 2) := by decide +kernel
theorem dX3_packed_74 : decode cX3_packed 74 = .ok (.lshl, 1) := by decide +kernel
theorem dX3_packed_75 : decode cX3_packed 75 = .ok (.goto 8, 3) := by decide +kernel
theorem dX3_packed_78 : decode cX3_packed 78 = .ok (.lload_n 2, 1) := by decide +kernel
theorem dX3_packed_79 : decode cX3_packed 79 = .ok (.iload 8, 2) := by decide +kernel
theorem dX3_packed_81 : decode cX3_packed 81 = .ok (.ineg, 1) := by decide +kernel
theorem dX3_packed_82 : decode cX3_packed 82 = .ok (.lushr, 1) := by decide +kernel
theorem dX3_packed_83 : decode cX3_packed 83 = .ok (.lstore 9, 2) := by decide +kernel
theorem dX3_packed_85 : decode cX3_packed 85 = .ok (.lload_n 0, 1) := by decide +kernel
theorem dX3_packed_86 : decode cX3_packed 86 = .ok (.iload 7, 2) := by decide +kernel
theorem dX3_packed_88 : decode cX3_packed 88 = .ok (.i2l, 1) := by decide +kernel
theorem dX3_packed_89 : decode cX3_packed 89 = .ok (.bipush 52, 2) := by decide +kernel
theorem dX3_packed_91 : decode cX3_packed 91 = .ok (.lshl, 1) := by decide +kernel
theorem dX3_packed_92 : decode cX3_packed 92 = .ok (.lor, 1) := by decide +kernel
theorem dX3_packed_93 : decode cX3_packed 93 = .ok (.lload 9, 2) := by decide +kernel
theorem dX3_packed_95 : decode cX3_packed 95 = .ok (.ldc2_w 71, 3) := by decide +kernel
theorem dX3_packed_98 : decode cX3_packed 98 = .ok (.land, 1) := by decide +kernel
theorem dX3_packed_99 : decode cX3_packed 99 = .ok (.lor, 1) := by decide +kernel
theorem dX3_packed_100 : decode cX3_packed 100 = .ok (.lreturn, 1) := by decide +kernel
def fn_X3_packed_b83 (h : mz_H) (j0 : Int64) (x7 : Int32) (s0 : Int64) : mz_Res Int64 :=
  mz_ret ((j0 ||| (mz_shl ((x7 : Int32).toInt64) 52)) ||| (s0 &&& 4503599627370495)) h
set_option maxHeartbeats 4000000 in
set_option maxRecDepth 100000 in
theorem pf_X3_packed_b83 (r : Int64) (Y : mz_Y p g RX3 cX3_packed 11 (some .long) "packed" (mz_AF h0) s m args meth c) (h : mz_H) (j0 : Int64) (x7 : Int32) (s0 : Int64) (dc ds : Nat) (hr : fn_X3_packed_b83 h j0 x7 s0 = some (r, hf, dc, ds)) : mz_Go l g p e s m args below meth c 1 22 DC DS h0 (some (Value.long r)) hf 11 83 [(0, true, .long j0), (7, false, .int x7)] [.long s0] h dc ds := by
  unfold fn_X3_packed_b83 at hr
  intro H locs cells slots ls hH hS hl hc hs
  have X := Y.1
  refine mz_lstore X [(9, true, .long s0), (0, true, .long j0), (7, false, .int x7)] dX3_packed_83 hl (by decide) rfl (fun ls hl => ?_)
  refine lv_lload_n X.1 X.2.1 dX3_packed_85 rfl (mz_at hl 1 rfl) ?_
  refine lv_iload X.1 X.2.1 dX3_packed_86 (mz_at hl 2 rfl) ?_
  refine lv_i2l (v := ((x7 : Int32).toInt64)) X.1 X.2.1 dX3_packed_88 rfl ?_
  refine lv_bipush (v := 52) X.1 X.2.1 dX3_packed_89 (by decide) ?_
  refine lv_lshl (v := (mz_shl ((x7 : Int32).toInt64) 52)) X.1 X.2.1 dX3_packed_91 rfl ?_
  refine lv_lor X.1 X.2.1 dX3_packed_92 ?_
  refine lv_lload X.1 X.2.1 dX3_packed_93 (mz_at hl 0 rfl) ?_
  refine mz_ldc2 (v := 4503599627370495) X (mz_tb 687 (by decide +kernel) rfl) dX3_packed_95 ?_
  refine lv_land X.1 X.2.1 dX3_packed_98 ?_
  refine lv_lor X.1 X.2.1 dX3_packed_99 ?_
  exact mz_lret Y dX3_packed_100 hH hS hc hs hr
def fn_X3_packed (h : mz_H) (j0 : Int64) (j2 : Int64) (x4 : Int32) (x5 : Int32) : mz_Res Int64 :=
  mz_call (fn_X3_lengthOf h j2) fun v1 h =>
  if v1 = 0 then
    mz_ret j0 h
  else
    if (x4 + v1) ≤ x5 then
      mz_op (some (((x4 + v1) - 1) + 1023)) fun v2 =>
      if 1 ≤ v2 then
        mz_op (some (53 - v1)) fun v3 =>
        if v3 < 0 then
          fn_X3_packed_b83 h j0 v2 (mz_ushr j2 (-v3))
        else
          fn_X3_packed_b83 h j0 v2 (mz_shl j2 v3)
      else
        mz_ret (j0 ||| (mz_shl j2 (x4 - (-1074)))) h
    else
      mz_ret (j0 ||| 9218868437227405312) h
set_option maxHeartbeats 4000000 in
set_option maxRecDepth 100000 in
theorem pf_X3_packed_b0 (r : Int64) (Y : mz_Y p g RX3 cX3_packed 11 (some .long) "packed" (mz_AF h0) s m args meth c) (h : mz_H) (j0 : Int64) (j2 : Int64) (x4 : Int32) (x5 : Int32) (dc ds : Nat) (hr : fn_X3_packed h j0 j2 x4 x5 = some (r, hf, dc, ds)) : mz_Go l g p e s m args below meth c 1 22 DC DS h0 (some (Value.long r)) hf 11 0 [(0, true, .long j0), (2, true, .long j2), (4, false, .int x4), (5, false, .int x5)] [] h dc ds := by
  unfold fn_X3_packed at hr
  intro H locs cells slots ls hH hS hl hc hs
  have X := Y.1
  refine lv_lload_n X.1 X.2.1 dX3_packed_0 rfl (mz_at hl 1 rfl) ?_
  refine mz_kS Value.int X hH hS hl.1.1 [.long j2] [] hr (ct_X3_lengthOf l g h j2) mb_RX3_66 im_X3_lengthOf rfl (Nat.le_of_ble_eq_true rfl) ⟨Nat.le_of_ble_eq_true rfl, Nat.le_of_ble_eq_true rfl⟩ hc hs dX3_packed_1 rfl (fun v1 h H locs cells slots dc ds hr hH hS hc hs => ?_)
  refine mz_istore X [(6, false, .int v1), (0, true, .long j0), (2, true, .long j2), (4, false, .int x4), (5, false, .int x5)] dX3_packed_4 hl (by decide) rfl (fun ls hl => ?_)
  refine lv_iload X.1 X.2.1 dX3_packed_6 (mz_at hl 0 rfl) ?_
  refine mz_if_ne X 13 dX3_packed_8 (by decide) hr (fun hr => ?_) (fun hr => ?_)
  · refine lv_iload X.1 X.2.1 dX3_packed_13 (mz_at hl 3 rfl) ?_
    refine lv_iload X.1 X.2.1 dX3_packed_15 (mz_at hl 0 rfl) ?_
    refine lv_iadd X.1 X.2.1 dX3_packed_17 ?_
    refine lv_iload X.1 X.2.1 dX3_packed_18 (mz_at hl 4 rfl) ?_
    refine mz_icmp_le X 29 dX3_packed_20 (by decide) hr (fun hr => ?_) (fun hr => ?_)
    · refine lv_iload X.1 X.2.1 dX3_packed_29 (mz_at hl 3 rfl) ?_
      refine lv_iload X.1 X.2.1 dX3_packed_31 (mz_at hl 0 rfl) ?_
      refine lv_iadd X.1 X.2.1 dX3_packed_33 ?_
      refine lv_iconst (v := 1) X.1 X.2.1 dX3_packed_34 (by decide) ?_
      refine lv_isub X.1 X.2.1 dX3_packed_35 ?_
      refine lv_sipush (v := 1023) X.1 X.2.1 dX3_packed_36 (by decide) ?_
      refine lv_iadd X.1 X.2.1 dX3_packed_39 ?_
      refine mz_topi hr (fun v2 hv2 hr => ?_)
      refine mz_istore X [(7, false, .int v2), (6, false, .int v1), (0, true, .long j0), (2, true, .long j2), (4, false, .int x4), (5, false, .int x5)] dX3_packed_40 hl (by decide) rfl (fun ls hl => ?_)
      refine lv_iload X.1 X.2.1 dX3_packed_42 (mz_at hl 0 rfl) ?_
      refine lv_iconst (v := 1) X.1 X.2.1 dX3_packed_44 (by decide) ?_
      refine mz_icmp_ge X 59 dX3_packed_45 (by decide) hr (fun hr => ?_) (fun hr => ?_)
      · refine lv_bipush (v := 53) X.1 X.2.1 dX3_packed_59 (by decide) ?_
        refine lv_iload X.1 X.2.1 dX3_packed_61 (mz_at hl 1 rfl) ?_
        refine lv_isub X.1 X.2.1 dX3_packed_63 ?_
        refine mz_topi hr (fun v3 hv3 hr => ?_)
        refine mz_istore X [(8, false, .int v3), (7, false, .int v2), (6, false, .int v1), (0, true, .long j0), (2, true, .long j2), (4, false, .int x4), (5, false, .int x5)] dX3_packed_64 hl (by decide) rfl (fun ls hl => ?_)
        refine lv_iload X.1 X.2.1 dX3_packed_66 (mz_at hl 0 rfl) ?_
        refine mz_if_lt X 78 dX3_packed_68 (by decide) hr (fun hr => ?_) (fun hr => ?_)
        · refine lv_lload_n X.1 X.2.1 dX3_packed_78 rfl (mz_at hl 4 rfl) ?_
          refine lv_iload X.1 X.2.1 dX3_packed_79 (mz_at hl 0 rfl) ?_
          refine lv_ineg X.1 X.2.1 dX3_packed_81 ?_
          refine lv_lushr (v := (mz_ushr j2 (-v3))) X.1 X.2.1 dX3_packed_82 rfl ?_
          exact pf_X3_packed_b83 r Y h j0 v2 (mz_ushr j2 (-v3)) _ _ hr H locs cells slots ls hH hS (mz_sub hl [3, 1] rfl) hc hs
        · refine lv_lload_n X.1 X.2.1 dX3_packed_71 rfl (mz_at hl 4 rfl) ?_
          refine lv_iload X.1 X.2.1 dX3_packed_72 (mz_at hl 0 rfl) ?_
          refine lv_lshl (v := (mz_shl j2 v3)) X.1 X.2.1 dX3_packed_74 rfl ?_
          refine lv_goto (tgt := 83) X.1 X.2.1 dX3_packed_75 (by decide) ?_
          exact pf_X3_packed_b83 r Y h j0 v2 (mz_shl j2 v3) _ _ hr H locs cells slots ls hH hS (mz_sub hl [3, 1] rfl) hc hs
      · refine lv_lload_n X.1 X.2.1 dX3_packed_48 rfl (mz_at hl 2 rfl) ?_
        refine lv_lload_n X.1 X.2.1 dX3_packed_49 rfl (mz_at hl 3 rfl) ?_
        refine lv_iload X.1 X.2.1 dX3_packed_50 (mz_at hl 4 rfl) ?_
        refine lv_sipush (v := (-1074)) X.1 X.2.1 dX3_packed_52 (by decide) ?_
        refine lv_isub X.1 X.2.1 dX3_packed_55 ?_
        refine lv_lshl (v := (mz_shl j2 (x4 - (-1074)))) X.1 X.2.1 dX3_packed_56 rfl ?_
        refine lv_lor X.1 X.2.1 dX3_packed_57 ?_
        exact mz_lret Y dX3_packed_58 hH hS hc hs hr
    · refine lv_lload_n X.1 X.2.1 dX3_packed_23 rfl (mz_at hl 1 rfl) ?_
      refine mz_ldc2 (v := 9218868437227405312) X (mz_tb 678 (by decide +kernel) rfl) dX3_packed_24 ?_
      refine lv_lor X.1 X.2.1 dX3_packed_27 ?_
      exact mz_lret Y dX3_packed_28 hH hS hc hs hr
  · refine lv_lload_n X.1 X.2.1 dX3_packed_11 rfl (mz_at hl 1 rfl) ?_
    exact mz_lret Y dX3_packed_12 hH hS hc hs hr
set_option maxRecDepth 100000 in
theorem ct_X3_packed (l : Launch) (g : mz_G) (h : mz_H) (j0 : Int64) (j2 : Int64) (x4 : Int32) (x5 : Int32) (r : Int64) (hf : mz_H) (k n : Nat) (hr : fn_X3_packed h j0 j2 x4 x5 = some (r, hf, k, n)) : mz_C l g yX3_packed cX3_packed 11 (some .long) 1 22 [.long j0, .long j2, .int x4, .int x5] h (some (Value.long r)) hf k n := by
  refine mz_met (as := [(true, .long j0), (true, .long j2), (false, .int x4), (false, .int x5)]) (plainFor_of_name (by decide)) (mz_c1 rfl (mz_c1 rfl (mz_c1 rfl (mz_c1 rfl mz_c0)))) (Nat.le_of_ble_eq_true rfl) ?_
  intro p e s m args below meth c Y
  exact pf_X3_packed_b0 r Y h j0 j2 x4 x5 _ _ hr
theorem dX3_rounded_0 : decode cX3_rounded 0 = .ok (.lload_n 2, 1) := by decide +kernel
theorem dX3_rounded_1 : decode cX3_rounded 1 = .ok (.invokestatic 66, 3) := by decide +kernel
theorem dX3_rounded_4 : decode cX3_rounded 4 = .ok (.iload 5, 2) := by decide +kernel
theorem dX3_rounded_6 : decode cX3_rounded 6 = .ok (.ifCond .eq 8, 3) := by decide +kernel
theorem dX3_rounded_9 : decode cX3_rounded 9 = .ok (.bipush 24, 2) := by decide +kernel
theorem dX3_rounded_11 : decode cX3_rounded 11 = .ok (.goto 5, 3) := by decide +kernel
theorem dX3_rounded_14 : decode cX3_rounded 14 = .ok (.bipush 53, 2) := by decide +kernel
theorem dX3_rounded_16 : decode cX3_rounded 16 = .ok (.isub, 1) := by decide +kernel
theorem dX3_rounded_17 : decode cX3_rounded 17 = .ok (.istore 6, 2) := by decide +kernel
theorem dX3_rounded_19 : decode cX3_rounded 19 = .ok (.iload 5, 2) := by decide +kernel
theorem dX3_rounded_21 : decode cX3_rounded 21 = .ok (.ifCond .eq 9, 3) := by decide +kernel
theorem dX3_rounded_24 : decode cX3_rounded 24 = .ok (.sipush (-149), 3) := by decide +kernel
theorem dX3_rounded_27 : decode cX3_rounded 27 = .ok (.goto 6, 3) := by decide +kernel
theorem dX3_rounded_30 : decode cX3_rounded 30 = .ok (.sipush (-1074), 3) := by decide +kernel
theorem dX3_rounded_33 : decode cX3_rounded 33 = .ok (.iload 4, 2) := by decide +kernel
theorem dX3_rounded_35 : decode cX3_rounded 35 = .ok (.isub, 1) := by decide +kernel
theorem dX3_rounded_36 : decode cX3_rounded 36 = .ok (.istore 7, 2) := by decide +kernel
theorem dX3_rounded_38 : decode cX3_rounded 38 = .ok (.iload 6, 2) := by decide +kernel
theorem dX3_rounded_40 : decode cX3_rounded 40 = .ok (.iload 7, 2) := by decide +kernel
theorem dX3_rounded_42 : decode cX3_rounded 42 = .ok (.invokestatic 75, 3) := by decide +kernel
theorem dX3_rounded_45 : decode cX3_rounded 45 = .ok (.iconst 0, 1) := by decide +kernel
theorem dX3_rounded_46 : decode cX3_rounded 46 = .ok (.invokestatic 75, 3) := by decide +kernel
theorem dX3_rounded_49 : decode cX3_rounded 49 = .ok (.istore 8, 2) := by decide +kernel
theorem dX3_rounded_51 : decode cX3_rounded 51 = .ok (.lload_n 0, 1) := by decide +kernel
theorem dX3_rounded_52 : decode cX3_rounded 52 = .ok (.lload_n 2, 1) := by decide +kernel
theorem dX3_rounded_53 : decode cX3_rounded 53 = .ok (.iload 8, 2) := by decide +kernel
theorem dX3_rounded_55 : decode cX3_rounded 55 = .ok (.invokestatic 56, 3) := by decide +kernel
theorem dX3_rounded_58 : decode cX3_rounded 58 = .ok (.iload 4, 2) := by decide +kernel
theorem dX3_rounded_60 : decode cX3_rounded 60 = .ok (.iload 8, 2) := by decide +kernel
theorem dX3_rounded_62 : decode cX3_rounded 62 = .ok (.iadd, 1) := by decide +kernel
theorem dX3_rounded_63 : decode cX3_rounded 63 = .ok (.iload 5, 2) := by decide +kernel
theorem dX3_rounded_65 : decode cX3_rounded 65 = .ok (.ifCond .eq 9, 3) := by decide +kernel
theorem dX3_rounded_68 : decode cX3_rounded 68 = .ok (.sipush 128, 3) := by decide +kernel
theorem dX3_rounded_71 : decode cX3_rounded 71 = .ok (.goto 6, 3) := by decide +kernel
theorem dX3_rounded_74 : decode cX3_rounded 74 = .ok (.sipush 1024, 3) := by decide +kernel
theorem dX3_rounded_77 : decode cX3_rounded 77 = .ok (.invokestatic 52, 3) := by decide +kernel
theorem dX3_rounded_80 : decode cX3_rounded 80 = .ok (.lreturn, 1) := by decide +kernel
def fn_X3_rounded_b77 (h : mz_H) (s0 : Int64) (s1 : Int64) (s2 : Int32) (s3 : Int32) : mz_Res Int64 :=
  mz_call (fn_X3_packed h s0 s1 s2 s3) fun v1 h =>
  mz_ret v1 h
set_option maxHeartbeats 4000000 in
set_option maxRecDepth 100000 in
theorem pf_X3_rounded_b77 (r : Int64) (Y : mz_Y p g RX3 cX3_rounded 9 (some .long) "rounded" (mz_AF h0) s m args meth c) (h : mz_H) (s0 : Int64) (s1 : Int64) (s2 : Int32) (s3 : Int32) (dc ds : Nat) (hr : fn_X3_rounded_b77 h s0 s1 s2 s3 = some (r, hf, dc, ds)) : mz_Go l g p e s m args below meth c 2 52 DC DS h0 (some (Value.long r)) hf 9 77 [] [.int s3, .int s2, .long s1, .long s0] h dc ds := by
  unfold fn_X3_rounded_b77 at hr
  intro H locs cells slots ls hH hS hl hc hs
  have X := Y.1
  refine mz_kS Value.long X hH hS hl.1.1 [.long s0, .long s1, .int s2, .int s3] [] hr (ct_X3_packed l g h s0 s1 s2 s3) mb_RX3_52 im_X3_packed rfl (Nat.le_of_ble_eq_true rfl) ⟨Nat.le_of_ble_eq_true rfl, Nat.le_of_ble_eq_true rfl⟩ hc hs dX3_rounded_77 rfl (fun v1 h H locs cells slots dc ds hr hH hS hc hs => ?_)
  exact mz_lret Y dX3_rounded_80 hH hS hc hs hr
def fn_X3_rounded_b33 (h : mz_H) (j0 : Int64) (j2 : Int64) (x4 : Int32) (x5 : Int32) (x6 : Int32) (s0 : Int32) : mz_Res Int64 :=
  mz_op (some (s0 - x4)) fun v1 =>
  mz_op (some (if (if x6 < v1 then v1 else x6) < 0 then 0 else (if x6 < v1 then v1 else x6))) fun v2 =>
  mz_call (fn_X3_withoutDigits h j2 v2) fun v3 h =>
  if x5 = 0 then
    fn_X3_rounded_b77 h j0 v3 (x4 + v2) 1024
  else
    fn_X3_rounded_b77 h j0 v3 (x4 + v2) 128
set_option maxHeartbeats 4000000 in
set_option maxRecDepth 100000 in
theorem pf_X3_rounded_b33 (r : Int64) (Y : mz_Y p g RX3 cX3_rounded 9 (some .long) "rounded" (mz_AF h0) s m args meth c) (h : mz_H) (j0 : Int64) (j2 : Int64) (x4 : Int32) (x5 : Int32) (x6 : Int32) (s0 : Int32) (dc ds : Nat) (hr : fn_X3_rounded_b33 h j0 j2 x4 x5 x6 s0 = some (r, hf, dc, ds)) : mz_Go l g p e s m args below meth c 2 52 DC DS h0 (some (Value.long r)) hf 9 33 [(0, true, .long j0), (2, true, .long j2), (4, false, .int x4), (5, false, .int x5), (6, false, .int x6)] [.int s0] h dc ds := by
  unfold fn_X3_rounded_b33 at hr
  intro H locs cells slots ls hH hS hl hc hs
  have X := Y.1
  refine lv_iload X.1 X.2.1 dX3_rounded_33 (mz_at hl 2 rfl) ?_
  refine lv_isub X.1 X.2.1 dX3_rounded_35 ?_
  refine mz_topi hr (fun v1 hv1 hr => ?_)
  refine mz_istore X [(7, false, .int v1), (0, true, .long j0), (2, true, .long j2), (4, false, .int x4), (5, false, .int x5), (6, false, .int x6)] dX3_rounded_36 hl (by decide) rfl (fun ls hl => ?_)
  refine lv_iload X.1 X.2.1 dX3_rounded_38 (mz_at hl 5 rfl) ?_
  refine lv_iload X.1 X.2.1 dX3_rounded_40 (mz_at hl 0 rfl) ?_
  refine mz_max X hl.1.1 mx_RX3_75 (Nat.le_of_ble_eq_true rfl) ⟨Nat.le_of_ble_eq_true rfl, Nat.le_of_ble_eq_true rfl⟩ hc hs dX3_rounded_42 ?_
  refine lv_iconst (v := 0) X.1 X.2.1 dX3_rounded_45 (by decide) ?_
  refine mz_max X hl.1.1 mx_RX3_75 (Nat.le_of_ble_eq_true rfl) ⟨Nat.le_of_ble_eq_true rfl, Nat.le_of_ble_eq_true rfl⟩ hc hs dX3_rounded_46 ?_
  refine mz_topi hr (fun v2 hv2 hr => ?_)
  refine mz_istore X [(8, false, .int v2), (7, false, .int v1), (0, true, .long j0), (2, true, .long j2), (4, false, .int x4), (5, false, .int x5), (6, false, .int x6)] dX3_rounded_49 hl (by decide) rfl (fun ls hl => ?_)
  refine lv_lload_n X.1 X.2.1 dX3_rounded_51 rfl (mz_at hl 2 rfl) ?_
  refine lv_lload_n X.1 X.2.1 dX3_rounded_52 rfl (mz_at hl 3 rfl) ?_
  refine lv_iload X.1 X.2.1 dX3_rounded_53 (mz_at hl 0 rfl) ?_
  refine mz_kS Value.long X hH hS hl.1.1 [.long j2, .int v2] [.long j0] hr (ct_X3_withoutDigits l g h j2 v2) mb_RX3_56 im_X3_withoutDigits rfl (Nat.le_of_ble_eq_true rfl) ⟨Nat.le_of_ble_eq_true rfl, Nat.le_of_ble_eq_true rfl⟩ hc hs dX3_rounded_55 rfl (fun v3 h H locs cells slots dc ds hr hH hS hc hs => ?_)
  refine lv_iload X.1 X.2.1 dX3_rounded_58 (mz_at hl 4 rfl) ?_
  refine lv_iload X.1 X.2.1 dX3_rounded_60 (mz_at hl 0 rfl) ?_
  refine lv_iadd X.1 X.2.1 dX3_rounded_62 ?_
  refine lv_iload X.1 X.2.1 dX3_rounded_63 (mz_at hl 5 rfl) ?_
  refine mz_if_eq X 74 dX3_rounded_65 (by decide) hr (fun hr => ?_) (fun hr => ?_)
  · refine lv_sipush (v := 1024) X.1 X.2.1 dX3_rounded_74 (by decide) ?_
    exact pf_X3_rounded_b77 r Y h j0 v3 (x4 + v2) 1024 _ _ hr H locs cells slots ls hH hS (mz_sub hl [] rfl) hc hs
  · refine lv_sipush (v := 128) X.1 X.2.1 dX3_rounded_68 (by decide) ?_
    refine lv_goto (tgt := 77) X.1 X.2.1 dX3_rounded_71 (by decide) ?_
    exact pf_X3_rounded_b77 r Y h j0 v3 (x4 + v2) 128 _ _ hr H locs cells slots ls hH hS (mz_sub hl [] rfl) hc hs
def fn_X3_rounded_b16 (h : mz_H) (j0 : Int64) (j2 : Int64) (x4 : Int32) (x5 : Int32) (s0 : Int32) (s1 : Int32) : mz_Res Int64 :=
  mz_op (some (s0 - s1)) fun v1 =>
  if x5 = 0 then
    fn_X3_rounded_b33 h j0 j2 x4 x5 v1 (-1074)
  else
    fn_X3_rounded_b33 h j0 j2 x4 x5 v1 (-149)
set_option maxHeartbeats 4000000 in
set_option maxRecDepth 100000 in
theorem pf_X3_rounded_b16 (r : Int64) (Y : mz_Y p g RX3 cX3_rounded 9 (some .long) "rounded" (mz_AF h0) s m args meth c) (h : mz_H) (j0 : Int64) (j2 : Int64) (x4 : Int32) (x5 : Int32) (s0 : Int32) (s1 : Int32) (dc ds : Nat) (hr : fn_X3_rounded_b16 h j0 j2 x4 x5 s0 s1 = some (r, hf, dc, ds)) : mz_Go l g p e s m args below meth c 2 52 DC DS h0 (some (Value.long r)) hf 9 16 [(0, true, .long j0), (2, true, .long j2), (4, false, .int x4), (5, false, .int x5)] [.int s1, .int s0] h dc ds := by
  unfold fn_X3_rounded_b16 at hr
  intro H locs cells slots ls hH hS hl hc hs
  have X := Y.1
  refine lv_isub X.1 X.2.1 dX3_rounded_16 ?_
  refine mz_topi hr (fun v1 hv1 hr => ?_)
  refine mz_istore X [(6, false, .int v1), (0, true, .long j0), (2, true, .long j2), (4, false, .int x4), (5, false, .int x5)] dX3_rounded_17 hl (by decide) rfl (fun ls hl => ?_)
  refine lv_iload X.1 X.2.1 dX3_rounded_19 (mz_at hl 4 rfl) ?_
  refine mz_if_eq X 30 dX3_rounded_21 (by decide) hr (fun hr => ?_) (fun hr => ?_)
  · refine lv_sipush (v := (-1074)) X.1 X.2.1 dX3_rounded_30 (by decide) ?_
    exact pf_X3_rounded_b33 r Y h j0 j2 x4 x5 v1 (-1074) _ _ hr H locs cells slots ls hH hS (mz_sub hl [1, 2, 3, 4, 0] rfl) hc hs
  · refine lv_sipush (v := (-149)) X.1 X.2.1 dX3_rounded_24 (by decide) ?_
    refine lv_goto (tgt := 33) X.1 X.2.1 dX3_rounded_27 (by decide) ?_
    exact pf_X3_rounded_b33 r Y h j0 j2 x4 x5 v1 (-149) _ _ hr H locs cells slots ls hH hS (mz_sub hl [1, 2, 3, 4, 0] rfl) hc hs
def fn_X3_rounded (h : mz_H) (j0 : Int64) (j2 : Int64) (x4 : Int32) (x5 : Int32) : mz_Res Int64 :=
  mz_call (fn_X3_lengthOf h j2) fun v1 h =>
  if x5 = 0 then
    fn_X3_rounded_b16 h j0 j2 x4 x5 v1 53
  else
    fn_X3_rounded_b16 h j0 j2 x4 x5 v1 24
set_option maxHeartbeats 4000000 in
set_option maxRecDepth 100000 in
theorem pf_X3_rounded_b0 (r : Int64) (Y : mz_Y p g RX3 cX3_rounded 9 (some .long) "rounded" (mz_AF h0) s m args meth c) (h : mz_H) (j0 : Int64) (j2 : Int64) (x4 : Int32) (x5 : Int32) (dc ds : Nat) (hr : fn_X3_rounded h j0 j2 x4 x5 = some (r, hf, dc, ds)) : mz_Go l g p e s m args below meth c 2 52 DC DS h0 (some (Value.long r)) hf 9 0 [(0, true, .long j0), (2, true, .long j2), (4, false, .int x4), (5, false, .int x5)] [] h dc ds := by
  unfold fn_X3_rounded at hr
  intro H locs cells slots ls hH hS hl hc hs
  have X := Y.1
  refine lv_lload_n X.1 X.2.1 dX3_rounded_0 rfl (mz_at hl 1 rfl) ?_
  refine mz_kS Value.int X hH hS hl.1.1 [.long j2] [] hr (ct_X3_lengthOf l g h j2) mb_RX3_66 im_X3_lengthOf rfl (Nat.le_of_ble_eq_true rfl) ⟨Nat.le_of_ble_eq_true rfl, Nat.le_of_ble_eq_true rfl⟩ hc hs dX3_rounded_1 rfl (fun v1 h H locs cells slots dc ds hr hH hS hc hs => ?_)
  refine lv_iload X.1 X.2.1 dX3_rounded_4 (mz_at hl 3 rfl) ?_
  refine mz_if_eq X 14 dX3_rounded_6 (by decide) hr (fun hr => ?_) (fun hr => ?_)
  · refine lv_bipush (v := 53) X.1 X.2.1 dX3_rounded_14 (by decide) ?_
    exact pf_X3_rounded_b16 r Y h j0 j2 x4 x5 v1 53 _ _ hr H locs cells slots ls hH hS (mz_sub hl [0, 1, 2, 3] rfl) hc hs
  · refine lv_bipush (v := 24) X.1 X.2.1 dX3_rounded_9 (by decide) ?_
    refine lv_goto (tgt := 16) X.1 X.2.1 dX3_rounded_11 (by decide) ?_
    exact pf_X3_rounded_b16 r Y h j0 j2 x4 x5 v1 24 _ _ hr H locs cells slots ls hH hS (mz_sub hl [0, 1, 2, 3] rfl) hc hs
set_option maxRecDepth 100000 in
theorem ct_X3_rounded (l : Launch) (g : mz_G) (h : mz_H) (j0 : Int64) (j2 : Int64) (x4 : Int32) (x5 : Int32) (r : Int64) (hf : mz_H) (k n : Nat) (hr : fn_X3_rounded h j0 j2 x4 x5 = some (r, hf, k, n)) : mz_C l g yX3_rounded cX3_rounded 9 (some .long) 2 52 [.long j0, .long j2, .int x4, .int x5] h (some (Value.long r)) hf k n := by
  refine mz_met (as := [(true, .long j0), (true, .long j2), (false, .int x4), (false, .int x5)]) (plainFor_of_name (by decide)) (mz_c1 rfl (mz_c1 rfl (mz_c1 rfl (mz_c1 rfl mz_c0)))) (Nat.le_of_ble_eq_true rfl) ?_
  intro p e s m args below meth c Y
  exact pf_X3_rounded_b0 r Y h j0 j2 x4 x5 _ _ hr
theorem dX3_toFloat_0 : decode cX3_toFloat 0 = .ok (.lload_n 0, 1) := by decide +kernel
theorem dX3_toFloat_1 : decode cX3_toFloat 1 = .ok (.invokestatic 15, 3) := by decide +kernel
theorem dX3_toFloat_4 : decode cX3_toFloat 4 = .ok (.ifCond .eq 7, 3) := by decide +kernel
theorem dX3_toFloat_7 : decode cX3_toFloat 7 = .ok (.ldc2_w 19, 3) := by decide +kernel
theorem dX3_toFloat_10 : decode cX3_toFloat 10 = .ok (.lreturn, 1) := by decide +kernel
theorem dX3_toFloat_11 : decode cX3_toFloat 11 = .ok (.lload_n 0, 1) := by decide +kernel
theorem dX3_toFloat_12 : decode cX3_toFloat 12 = .ok (.invokestatic 60, 3) := by decide +kernel
theorem dX3_toFloat_15 : decode cX3_toFloat 15 = .ok (.ifCond .eq 23, 3) := by decide +kernel
theorem dX3_toFloat_18 : decode cX3_toFloat 18 = .ok (.lload_n 0, 1) := by decide +kernel
theorem dX3_toFloat_19 : decode cX3_toFloat 19 = .ok (.ldc2_w 33, 3) := by decide +kernel
theorem dX3_toFloat_22 : decode cX3_toFloat 22 = .ok (.land, 1) := by decide +kernel
theorem dX3_toFloat_23 : decode cX3_toFloat 23 = .ok (.lload_n 0, 1) := by decide +kernel
theorem dX3_toFloat_24 : decode cX3_toFloat 24 = .ok (.invokestatic 46, 3) := by decide +kernel
theorem dX3_toFloat_27 : decode cX3_toFloat 27 = .ok (.lload_n 0, 1) := by decide +kernel
theorem dX3_toFloat_28 : decode cX3_toFloat 28 = .ok (.invokestatic 42, 3) := by decide +kernel
theorem dX3_toFloat_31 : decode cX3_toFloat 31 = .ok (.iconst 1, 1) := by decide +kernel
theorem dX3_toFloat_32 : decode cX3_toFloat 32 = .ok (.invokestatic 38, 3) := by decide +kernel
theorem dX3_toFloat_35 : decode cX3_toFloat 35 = .ok (.goto 4, 3) := by decide +kernel
theorem dX3_toFloat_38 : decode cX3_toFloat 38 = .ok (.lload_n 0, 1) := by decide +kernel
theorem dX3_toFloat_39 : decode cX3_toFloat 39 = .ok (.lreturn, 1) := by decide +kernel
def fn_X3_toFloat (h : mz_H) (j0 : Int64) : mz_Res Int64 :=
  mz_call (fn_X3_isNotANumber h j0) fun v1 h =>
  if v1 = 0 then
    mz_call (fn_X3_isFinite h j0) fun v2 h =>
    if v2 = 0 then
      mz_ret j0 h
    else
      mz_call (fn_X3_digitsOf h j0) fun v3 h =>
      mz_call (fn_X3_powerOf h j0) fun v4 h =>
      mz_call (fn_X3_rounded h (j0 &&& (-9223372036854775808)) v3 v4 1) fun v5 h =>
      mz_ret v5 h
  else
    mz_ret 9221120237041090560 h
set_option maxHeartbeats 4000000 in
set_option maxRecDepth 100000 in
theorem pf_X3_toFloat_b0 (r : Int64) (Y : mz_Y p g RX3 cX3_toFloat 2 (some .long) "toFloat" (mz_AF h0) s m args meth c) (h : mz_H) (j0 : Int64) (dc ds : Nat) (hr : fn_X3_toFloat h j0 = some (r, hf, dc, ds)) : mz_Go l g p e s m args below meth c 3 80 DC DS h0 (some (Value.long r)) hf 2 0 [(0, true, .long j0)] [] h dc ds := by
  unfold fn_X3_toFloat at hr
  intro H locs cells slots ls hH hS hl hc hs
  have X := Y.1
  refine lv_lload_n X.1 X.2.1 dX3_toFloat_0 rfl (mz_at hl 0 rfl) ?_
  refine mz_kS Value.int X hH hS hl.1.1 [.long j0] [] hr (ct_X3_isNotANumber l g h j0) mb_RX3_15 im_X3_isNotANumber rfl (Nat.le_of_ble_eq_true rfl) ⟨Nat.le_of_ble_eq_true rfl, Nat.le_of_ble_eq_true rfl⟩ hc hs dX3_toFloat_1 rfl (fun v1 h H locs cells slots dc ds hr hH hS hc hs => ?_)
  refine mz_if_eq X 11 dX3_toFloat_4 (by decide) hr (fun hr => ?_) (fun hr => ?_)
  · refine lv_lload_n X.1 X.2.1 dX3_toFloat_11 rfl (mz_at hl 0 rfl) ?_
    refine mz_kS Value.int X hH hS hl.1.1 [.long j0] [] hr (ct_X3_isFinite l g h j0) mb_RX3_60 im_X3_isFinite rfl (Nat.le_of_ble_eq_true rfl) ⟨Nat.le_of_ble_eq_true rfl, Nat.le_of_ble_eq_true rfl⟩ hc hs dX3_toFloat_12 rfl (fun v2 h H locs cells slots dc ds hr hH hS hc hs => ?_)
    refine mz_if_eq X 38 dX3_toFloat_15 (by decide) hr (fun hr => ?_) (fun hr => ?_)
    · refine lv_lload_n X.1 X.2.1 dX3_toFloat_38 rfl (mz_at hl 0 rfl) ?_
      exact mz_lret Y dX3_toFloat_39 hH hS hc hs hr
    · refine lv_lload_n X.1 X.2.1 dX3_toFloat_18 rfl (mz_at hl 0 rfl) ?_
      refine mz_ldc2 (v := (-9223372036854775808)) X (mz_tb 683 (by decide +kernel) rfl) dX3_toFloat_19 ?_
      refine lv_land X.1 X.2.1 dX3_toFloat_22 ?_
      refine lv_lload_n X.1 X.2.1 dX3_toFloat_23 rfl (mz_at hl 0 rfl) ?_
      refine mz_kS Value.long X hH hS hl.1.1 [.long j0] [.long (j0 &&& (-9223372036854775808))] hr (ct_X3_digitsOf l g h j0) mb_RX3_46 im_X3_digitsOf rfl (Nat.le_of_ble_eq_true rfl) ⟨Nat.le_of_ble_eq_true rfl, Nat.le_of_ble_eq_true rfl⟩ hc hs dX3_toFloat_24 rfl (fun v3 h H locs cells slots dc ds hr hH hS hc hs => ?_)
      refine lv_lload_n X.1 X.2.1 dX3_toFloat_27 rfl (mz_at hl 0 rfl) ?_
      refine mz_kS Value.int X hH hS hl.1.1 [.long j0] [.long v3, .long (j0 &&& (-9223372036854775808))] hr (ct_X3_powerOf l g h j0) mb_RX3_42 im_X3_powerOf rfl (Nat.le_of_ble_eq_true rfl) ⟨Nat.le_of_ble_eq_true rfl, Nat.le_of_ble_eq_true rfl⟩ hc hs dX3_toFloat_28 rfl (fun v4 h H locs cells slots dc ds hr hH hS hc hs => ?_)
      refine lv_iconst (v := 1) X.1 X.2.1 dX3_toFloat_31 (by decide) ?_
      refine mz_kS Value.long X hH hS hl.1.1 [.long (j0 &&& (-9223372036854775808)), .long v3, .int v4, .int 1] [] hr (ct_X3_rounded l g h (j0 &&& (-9223372036854775808)) v3 v4 1) mb_RX3_38 im_X3_rounded rfl (Nat.le_of_ble_eq_true rfl) ⟨Nat.le_of_ble_eq_true rfl, Nat.le_of_ble_eq_true rfl⟩ hc hs dX3_toFloat_32 rfl (fun v5 h H locs cells slots dc ds hr hH hS hc hs => ?_)
      refine lv_goto (tgt := 39) X.1 X.2.1 dX3_toFloat_35 (by decide) ?_
      exact mz_lret Y dX3_toFloat_39 hH hS hc hs hr
  · refine mz_ldc2 (v := 9221120237041090560) X (mz_tb 679 (by decide +kernel) rfl) dX3_toFloat_7 ?_
    exact mz_lret Y dX3_toFloat_10 hH hS hc hs hr
set_option maxRecDepth 100000 in
theorem ct_X3_toFloat (l : Launch) (g : mz_G) (h : mz_H) (j0 : Int64) (r : Int64) (hf : mz_H) (k n : Nat) (hr : fn_X3_toFloat h j0 = some (r, hf, k, n)) : mz_C l g yX3_toFloat cX3_toFloat 2 (some .long) 3 80 [.long j0] h (some (Value.long r)) hf k n := by
  refine mz_met (as := [(true, .long j0)]) (plainFor_of_name (by decide)) (mz_c1 rfl mz_c0) (Nat.le_of_ble_eq_true rfl) ?_
  intro p e s m args below meth c Y
  exact pf_X3_toFloat_b0 r Y h j0 _ _ hr
theorem dX3_become_0 : decode cX3_become 0 = .ok (.iload_n 2, 1) := by decide +kernel
theorem dX3_become_1 : decode cX3_become 1 = .ok (.tableswitch 98 0 7 #[47, 52, 57, 62, 98, 66, 71, 86], 47) := by decide +kernel
theorem dX3_become_48 : decode cX3_become 48 = .ok (.lload_n 0, 1) := by decide +kernel
theorem dX3_become_49 : decode cX3_become 49 = .ok (.l2i, 1) := by decide +kernel
theorem dX3_become_50 : decode cX3_become 50 = .ok (.i2b, 1) := by decide +kernel
theorem dX3_become_51 : decode cX3_become 51 = .ok (.i2l, 1) := by decide +kernel
theorem dX3_become_52 : decode cX3_become 52 = .ok (.lreturn, 1) := by decide +kernel
theorem dX3_become_53 : decode cX3_become 53 = .ok (.lload_n 0, 1) := by decide +kernel
theorem dX3_become_54 : decode cX3_become 54 = .ok (.l2i, 1) := by decide +kernel
theorem dX3_become_55 : decode cX3_become 55 = .ok (.i2s, 1) := by decide +kernel
theorem dX3_become_56 : decode cX3_become 56 = .ok (.i2l, 1) := by decide +kernel
theorem dX3_become_57 : decode cX3_become 57 = .ok (.lreturn, 1) := by decide +kernel
theorem dX3_become_58 : decode cX3_become 58 = .ok (.lload_n 0, 1) := by decide +kernel
theorem dX3_become_59 : decode cX3_become 59 = .ok (.l2i, 1) := by decide +kernel
theorem dX3_become_60 : decode cX3_become 60 = .ok (.i2c, 1) := by decide +kernel
theorem dX3_become_61 : decode cX3_become 61 = .ok (.i2l, 1) := by decide +kernel
theorem dX3_become_62 : decode cX3_become 62 = .ok (.lreturn, 1) := by decide +kernel
theorem dX3_become_63 : decode cX3_become 63 = .ok (.lload_n 0, 1) := by decide +kernel
theorem dX3_become_64 : decode cX3_become 64 = .ok (.l2i, 1) := by decide +kernel
theorem dX3_become_65 : decode cX3_become 65 = .ok (.i2l, 1) := by decide +kernel
theorem dX3_become_66 : decode cX3_become 66 = .ok (.lreturn, 1) := by decide +kernel
theorem dX3_become_67 : decode cX3_become 67 = .ok (.lload_n 0, 1) := by decide +kernel
theorem dX3_become_68 : decode cX3_become 68 = .ok (.invokestatic 9, 3) := by decide +kernel
theorem dX3_become_71 : decode cX3_become 71 = .ok (.lreturn, 1) := by decide +kernel
theorem dX3_become_72 : decode cX3_become 72 = .ok (.lload_n 0, 1) := by decide +kernel
theorem dX3_become_73 : decode cX3_become 73 = .ok (.invokestatic 15, 3) := by decide +kernel
theorem dX3_become_76 : decode cX3_become 76 = .ok (.ifCond .eq 9, 3) := by decide +kernel
theorem dX3_become_79 : decode cX3_become 79 = .ok (.ldc2_w 19, 3) := by decide +kernel
theorem dX3_become_82 : decode cX3_become 82 = .ok (.goto 4, 3) := by decide +kernel
theorem dX3_become_85 : decode cX3_become 85 = .ok (.lload_n 0, 1) := by decide +kernel
theorem dX3_become_86 : decode cX3_become 86 = .ok (.lreturn, 1) := by decide +kernel
theorem dX3_become_87 : decode cX3_become 87 = .ok (.lload_n 0, 1) := by decide +kernel
theorem dX3_become_88 : decode cX3_become 88 = .ok (.lconst 0, 1) := by decide +kernel
theorem dX3_become_89 : decode cX3_become 89 = .ok (.lcmp, 1) := by decide +kernel
theorem dX3_become_90 : decode cX3_become 90 = .ok (.ifCond .eq 7, 3) := by decide +kernel
theorem dX3_become_93 : decode cX3_become 93 = .ok (.lconst 1, 1) := by decide +kernel
theorem dX3_become_94 : decode cX3_become 94 = .ok (.goto 4, 3) := by decide +kernel
theorem dX3_become_97 : decode cX3_become 97 = .ok (.lconst 0, 1) := by decide +kernel
theorem dX3_become_98 : decode cX3_become 98 = .ok (.lreturn, 1) := by decide +kernel
theorem dX3_become_99 : decode cX3_become 99 = .ok (.lload_n 0, 1) := by decide +kernel
theorem dX3_become_100 : decode cX3_become 100 = .ok (.lreturn, 1) := by decide +kernel
def fn_X3_become (h : mz_H) (j0 : Int64) (x2 : Int32) : mz_Res Int64 :=
  if x2 = 0 then
    mz_ret ((((((j0 : Int64).toInt32) : Int32).toInt8.toInt32) : Int32).toInt64) h
  else
  if x2 = 1 then
    mz_ret ((((((j0 : Int64).toInt32) : Int32).toInt16.toInt32) : Int32).toInt64) h
  else
  if x2 = 2 then
    mz_ret (((mz_i2c ((j0 : Int64).toInt32)) : Int32).toInt64) h
  else
  if x2 = 3 then
    mz_ret ((((j0 : Int64).toInt32) : Int32).toInt64) h
  else
  if x2 = 5 then
    mz_call (fn_X3_toFloat h j0) fun v1 h =>
    mz_ret v1 h
  else
  if x2 = 6 then
    mz_call (fn_X3_isNotANumber h j0) fun v2 h =>
    if v2 = 0 then
      mz_ret j0 h
    else
      mz_ret 9221120237041090560 h
  else
  if x2 = 7 then
    if (lg_cmp j0 0) = 0 then
      mz_ret 0 h
    else
      mz_ret 1 h
  else
  mz_ret j0 h
set_option maxHeartbeats 4000000 in
set_option maxRecDepth 100000 in
theorem pf_X3_become_b0 (r : Int64) (Y : mz_Y p g RX3 cX3_become 3 (some .long) "become" (mz_AF h0) s m args meth c) (h : mz_H) (j0 : Int64) (x2 : Int32) (dc ds : Nat) (hr : fn_X3_become h j0 x2 = some (r, hf, dc, ds)) : mz_Go l g p e s m args below meth c 4 101 DC DS h0 (some (Value.long r)) hf 3 0 [(0, true, .long j0), (2, false, .int x2)] [] h dc ds := by
  unfold fn_X3_become at hr
  intro H locs cells slots ls hH hS hl hc hs
  have X := Y.1
  refine lv_iload_n X.1 X.2.1 dX3_become_0 rfl (mz_at hl 1 rfl) ?_
  by_cases q0 : x2 = 0
  · rw [if_pos q0] at hr
    refine mz_tin X dX3_become_1 q0 48 (by decide) (by decide) rfl (by decide) ?_
    refine lv_lload_n X.1 X.2.1 dX3_become_48 rfl (mz_at hl 0 rfl) ?_
    refine lv_l2i (v := ((j0 : Int64).toInt32)) X.1 X.2.1 dX3_become_49 rfl ?_
    refine lv_i2b (v := ((((j0 : Int64).toInt32) : Int32).toInt8.toInt32)) X.1 X.2.1 dX3_become_50 rfl ?_
    refine lv_i2l (v := ((((((j0 : Int64).toInt32) : Int32).toInt8.toInt32) : Int32).toInt64)) X.1 X.2.1 dX3_become_51 rfl ?_
    exact mz_lret Y dX3_become_52 hH hS hc hs hr
  rw [if_neg q0] at hr
  by_cases q1 : x2 = 1
  · rw [if_pos q1] at hr
    refine mz_tin X dX3_become_1 q1 53 (by decide) (by decide) rfl (by decide) ?_
    refine lv_lload_n X.1 X.2.1 dX3_become_53 rfl (mz_at hl 0 rfl) ?_
    refine lv_l2i (v := ((j0 : Int64).toInt32)) X.1 X.2.1 dX3_become_54 rfl ?_
    refine lv_i2s (v := ((((j0 : Int64).toInt32) : Int32).toInt16.toInt32)) X.1 X.2.1 dX3_become_55 rfl ?_
    refine lv_i2l (v := ((((((j0 : Int64).toInt32) : Int32).toInt16.toInt32) : Int32).toInt64)) X.1 X.2.1 dX3_become_56 rfl ?_
    exact mz_lret Y dX3_become_57 hH hS hc hs hr
  rw [if_neg q1] at hr
  by_cases q2 : x2 = 2
  · rw [if_pos q2] at hr
    refine mz_tin X dX3_become_1 q2 58 (by decide) (by decide) rfl (by decide) ?_
    refine lv_lload_n X.1 X.2.1 dX3_become_58 rfl (mz_at hl 0 rfl) ?_
    refine lv_l2i (v := ((j0 : Int64).toInt32)) X.1 X.2.1 dX3_become_59 rfl ?_
    refine lv_i2c (v := (mz_i2c ((j0 : Int64).toInt32))) X.1 X.2.1 dX3_become_60 rfl ?_
    refine lv_i2l (v := (((mz_i2c ((j0 : Int64).toInt32)) : Int32).toInt64)) X.1 X.2.1 dX3_become_61 rfl ?_
    exact mz_lret Y dX3_become_62 hH hS hc hs hr
  rw [if_neg q2] at hr
  by_cases q3 : x2 = 3
  · rw [if_pos q3] at hr
    refine mz_tin X dX3_become_1 q3 63 (by decide) (by decide) rfl (by decide) ?_
    refine lv_lload_n X.1 X.2.1 dX3_become_63 rfl (mz_at hl 0 rfl) ?_
    refine lv_l2i (v := ((j0 : Int64).toInt32)) X.1 X.2.1 dX3_become_64 rfl ?_
    refine lv_i2l (v := ((((j0 : Int64).toInt32) : Int32).toInt64)) X.1 X.2.1 dX3_become_65 rfl ?_
    exact mz_lret Y dX3_become_66 hH hS hc hs hr
  rw [if_neg q3] at hr
  by_cases q5 : x2 = 5
  · rw [if_pos q5] at hr
    refine mz_tin X dX3_become_1 q5 67 (by decide) (by decide) rfl (by decide) ?_
    refine lv_lload_n X.1 X.2.1 dX3_become_67 rfl (mz_at hl 0 rfl) ?_
    refine mz_kS Value.long X hH hS hl.1.1 [.long j0] [] hr (ct_X3_toFloat l g h j0) mb_RX3_9 im_X3_toFloat rfl (Nat.le_of_ble_eq_true rfl) ⟨Nat.le_of_ble_eq_true rfl, Nat.le_of_ble_eq_true rfl⟩ hc hs dX3_become_68 rfl (fun v1 h H locs cells slots dc ds hr hH hS hc hs => ?_)
    exact mz_lret Y dX3_become_71 hH hS hc hs hr
  rw [if_neg q5] at hr
  by_cases q6 : x2 = 6
  · rw [if_pos q6] at hr
    refine mz_tin X dX3_become_1 q6 72 (by decide) (by decide) rfl (by decide) ?_
    refine lv_lload_n X.1 X.2.1 dX3_become_72 rfl (mz_at hl 0 rfl) ?_
    refine mz_kS Value.int X hH hS hl.1.1 [.long j0] [] hr (ct_X3_isNotANumber l g h j0) mb_RX3_15 im_X3_isNotANumber rfl (Nat.le_of_ble_eq_true rfl) ⟨Nat.le_of_ble_eq_true rfl, Nat.le_of_ble_eq_true rfl⟩ hc hs dX3_become_73 rfl (fun v2 h H locs cells slots dc ds hr hH hS hc hs => ?_)
    refine mz_if_eq X 85 dX3_become_76 (by decide) hr (fun hr => ?_) (fun hr => ?_)
    · refine lv_lload_n X.1 X.2.1 dX3_become_85 rfl (mz_at hl 0 rfl) ?_
      exact mz_lret Y dX3_become_86 hH hS hc hs hr
    · refine mz_ldc2 (v := 9221120237041090560) X (mz_tb 679 (by decide +kernel) rfl) dX3_become_79 ?_
      refine lv_goto (tgt := 86) X.1 X.2.1 dX3_become_82 (by decide) ?_
      exact mz_lret Y dX3_become_86 hH hS hc hs hr
  rw [if_neg q6] at hr
  by_cases q7 : x2 = 7
  · rw [if_pos q7] at hr
    refine mz_tin X dX3_become_1 q7 87 (by decide) (by decide) rfl (by decide) ?_
    refine lv_lload_n X.1 X.2.1 dX3_become_87 rfl (mz_at hl 0 rfl) ?_
    refine lv_lconst (v := 0) X.1 X.2.1 dX3_become_88 (by decide) ?_
    refine W.lcmp X.1 X.2.1 dX3_become_89 ?_
    refine mz_if_eq X 97 dX3_become_90 (by decide) hr (fun hr => ?_) (fun hr => ?_)
    · refine lv_lconst (v := 0) X.1 X.2.1 dX3_become_97 (by decide) ?_
      exact mz_lret Y dX3_become_98 hH hS hc hs hr
    · refine lv_lconst (v := 1) X.1 X.2.1 dX3_become_93 (by decide) ?_
      refine lv_goto (tgt := 98) X.1 X.2.1 dX3_become_94 (by decide) ?_
      exact mz_lret Y dX3_become_98 hH hS hc hs hr
  rw [if_neg q7] at hr
  have kd : W p l e ({ frames := 4, cells := DC, slots := DS, locals := 101 }) s m args below meth c H locs cells slots (MQ below (mz_Q g h0 (some (Value.long r)) hf) args s DC DS (mz_AF h0)) (F0 m 99 ls []) := by
    refine lv_lload_n X.1 X.2.1 dX3_become_99 rfl (mz_at hl 0 rfl) ?_
    exact mz_lret Y dX3_become_100 hH hS hc hs hr
  by_cases q4 : x2 = 4
  · exact mz_tin X dX3_become_1 q4 99 (by decide) (by decide) rfl (by decide) kd
  have t0 : ¬ (x2 : Int32).toInt = 0 := fun z => q0 (mz_ti 0 (by decide) z)
  have t1 : ¬ (x2 : Int32).toInt = 1 := fun z => q1 (mz_ti 1 (by decide) z)
  have t2 : ¬ (x2 : Int32).toInt = 2 := fun z => q2 (mz_ti 2 (by decide) z)
  have t3 : ¬ (x2 : Int32).toInt = 3 := fun z => q3 (mz_ti 3 (by decide) z)
  have t4 : ¬ (x2 : Int32).toInt = 4 := fun z => q4 (mz_ti 4 (by decide) z)
  have t5 : ¬ (x2 : Int32).toInt = 5 := fun z => q5 (mz_ti 5 (by decide) z)
  have t6 : ¬ (x2 : Int32).toInt = 6 := fun z => q6 (mz_ti 6 (by decide) z)
  have t7 : ¬ (x2 : Int32).toInt = 7 := fun z => q7 (mz_ti 7 (by decide) z)
  exact mz_tout X dX3_become_1 99 (by omega) (by decide) kd
set_option maxRecDepth 100000 in
theorem ct_X3_become (l : Launch) (g : mz_G) (h : mz_H) (j0 : Int64) (x2 : Int32) (r : Int64) (hf : mz_H) (k n : Nat) (hr : fn_X3_become h j0 x2 = some (r, hf, k, n)) : mz_C l g yX3_become cX3_become 3 (some .long) 4 101 [.long j0, .int x2] h (some (Value.long r)) hf k n := by
  refine mz_met (as := [(true, .long j0), (false, .int x2)]) (plainFor_of_name (by decide)) (mz_c1 rfl (mz_c1 rfl mz_c0)) (Nat.le_of_ble_eq_true rfl) ?_
  intro p e s m args below meth c Y
  exact pf_X3_become_b0 r Y h j0 x2 _ _ hr
theorem dX3_widens_0 : decode cX3_widens 0 = .ok (.iload_n 0, 1) := by decide +kernel
theorem dX3_widens_1 : decode cX3_widens 1 = .ok (.ifCond .lt 27, 3) := by decide +kernel
theorem dX3_widens_4 : decode cX3_widens 4 = .ok (.iload_n 0, 1) := by decide +kernel
theorem dX3_widens_5 : decode cX3_widens 5 = .ok (.getstatic 21, 3) := by decide +kernel
theorem dX3_widens_8 : decode cX3_widens 8 = .ok (.arraylength, 1) := by decide +kernel
theorem dX3_widens_9 : decode cX3_widens 9 = .ok (.if_icmp .ge 19, 3) := by decide +kernel
theorem dX3_widens_12 : decode cX3_widens 12 = .ok (.getstatic 21, 3) := by decide +kernel
theorem dX3_widens_15 : decode cX3_widens 15 = .ok (.iload_n 0, 1) := by decide +kernel
theorem dX3_widens_16 : decode cX3_widens 16 = .ok (.iaload, 1) := by decide +kernel
theorem dX3_widens_17 : decode cX3_widens 17 = .ok (.iload_n 1, 1) := by decide +kernel
theorem dX3_widens_18 : decode cX3_widens 18 = .ok (.ishr, 1) := by decide +kernel
theorem dX3_widens_19 : decode cX3_widens 19 = .ok (.iconst 1, 1) := by decide +kernel
theorem dX3_widens_20 : decode cX3_widens 20 = .ok (.iand, 1) := by decide +kernel
theorem dX3_widens_21 : decode cX3_widens 21 = .ok (.ifCond .eq 7, 3) := by decide +kernel
theorem dX3_widens_24 : decode cX3_widens 24 = .ok (.iconst 1, 1) := by decide +kernel
theorem dX3_widens_25 : decode cX3_widens 25 = .ok (.goto 4, 3) := by decide +kernel
theorem dX3_widens_28 : decode cX3_widens 28 = .ok (.iconst 0, 1) := by decide +kernel
theorem dX3_widens_29 : decode cX3_widens 29 = .ok (.ireturn, 1) := by decide +kernel
def fn_X3_widens (h : mz_H) (x0 : Int32) (x1 : Int32) : mz_Res Int32 :=
  if x0 < 0 then
    mz_chk ((0 : Int32) &&& 1 == 0) (mz_ret 0 h)
  else
    if 9 ≤ x0 then
      mz_chk ((0 : Int32) &&& 1 == 0) (mz_ret 0 h)
    else
      mz_op (mz_wtA x0) fun v1 =>
      if ((v1 >>> (x1 &&& 31)) &&& 1) = 0 then
        mz_chk ((0 : Int32) &&& 1 == 0) (mz_ret 0 h)
      else
        mz_chk ((1 : Int32) &&& 1 == 1) (mz_ret 1 h)
set_option maxHeartbeats 4000000 in
set_option maxRecDepth 100000 in
theorem pf_X3_widens_b0 (r : Int32) (Y : mz_Y p g RX3 cX3_widens 2 (some .boolean) "widens" (mz_AF h0) s m args meth c) (h : mz_H) (x0 : Int32) (x1 : Int32) (dc ds : Nat) (hr : fn_X3_widens h x0 x1 = some (r, hf, dc, ds)) : mz_Go l g p e s m args below meth c 0 0 DC DS h0 (some (Value.int r)) hf 2 0 [(0, false, .int x0), (1, false, .int x1)] [] h dc ds := by
  unfold fn_X3_widens at hr
  intro H locs cells slots ls hH hS hl hc hs
  have X := Y.1
  refine lv_iload_n X.1 X.2.1 dX3_widens_0 rfl (mz_at hl 0 rfl) ?_
  refine mz_if_lt X 28 dX3_widens_1 (by decide) hr (fun hr => ?_) (fun hr => ?_)
  · refine lv_iconst (v := 0) X.1 X.2.1 dX3_widens_28 (by decide) ?_
    exact mz_zret Y dX3_widens_29 hH hS hc hs hr
  · refine lv_iload_n X.1 X.2.1 dX3_widens_4 rfl (mz_at hl 0 rfl) ?_
    refine mz_gst X hS (mz_tb 731 (by decide +kernel) rfl) dX3_widens_5 ?_
    refine mz_glen X hS dX3_widens_8 ?_
    refine mz_icmp_ge X 28 dX3_widens_9 (by decide) hr (fun hr => ?_) (fun hr => ?_)
    · refine lv_iconst (v := 0) X.1 X.2.1 dX3_widens_28 (by decide) ?_
      exact mz_zret Y dX3_widens_29 hH hS hc hs hr
    · refine mz_gst X hS (mz_tb 731 (by decide +kernel) rfl) dX3_widens_12 ?_
      refine lv_iload_n X.1 X.2.1 dX3_widens_15 rfl (mz_at hl 0 rfl) ?_
      refine mz_gald X hS dX3_widens_16 hr (fun v1 hr => ?_)
      refine lv_iload_n X.1 X.2.1 dX3_widens_17 rfl (mz_at hl 1 rfl) ?_
      refine lv_ishr X.1 X.2.1 dX3_widens_18 ?_
      refine lv_iconst (v := 1) X.1 X.2.1 dX3_widens_19 (by decide) ?_
      refine lv_iand X.1 X.2.1 dX3_widens_20 ?_
      refine mz_if_eq X 28 dX3_widens_21 (by decide) hr (fun hr => ?_) (fun hr => ?_)
      · refine lv_iconst (v := 0) X.1 X.2.1 dX3_widens_28 (by decide) ?_
        exact mz_zret Y dX3_widens_29 hH hS hc hs hr
      · refine lv_iconst (v := 1) X.1 X.2.1 dX3_widens_24 (by decide) ?_
        refine lv_goto (tgt := 29) X.1 X.2.1 dX3_widens_25 (by decide) ?_
        exact mz_zret Y dX3_widens_29 hH hS hc hs hr
set_option maxRecDepth 100000 in
theorem ct_X3_widens (l : Launch) (g : mz_G) (h : mz_H) (x0 : Int32) (x1 : Int32) (r : Int32) (hf : mz_H) (k n : Nat) (hr : fn_X3_widens h x0 x1 = some (r, hf, k, n)) : mz_C l g yX3_widens cX3_widens 2 (some .boolean) 0 0 [.int x0, .int x1] h (some (Value.int r)) hf k n := by
  refine mz_met (as := [(false, .int x0), (false, .int x1)]) (plainFor_of_name (by decide)) (mz_c1 rfl (mz_c1 rfl mz_c0)) (Nat.le_of_ble_eq_true rfl) ?_
  intro p e s m args below meth c Y
  exact pf_X3_widens_b0 r Y h x0 x1 _ _ hr
theorem dX3_ofWhole_0 : decode cX3_ofWhole 0 = .ok (.lload_n 0, 1) := by decide +kernel
theorem dX3_ofWhole_1 : decode cX3_ofWhole 1 = .ok (.lconst 0, 1) := by decide +kernel
theorem dX3_ofWhole_2 : decode cX3_ofWhole 2 = .ok (.lcmp, 1) := by decide +kernel
theorem dX3_ofWhole_3 : decode cX3_ofWhole 3 = .ok (.ifCond .ge 16, 3) := by decide +kernel
theorem dX3_ofWhole_6 : decode cX3_ofWhole 6 = .ok (.ldc2_w 33, 3) := by decide +kernel
theorem dX3_ofWhole_9 : decode cX3_ofWhole 9 = .ok (.lload_n 0, 1) := by decide +kernel
theorem dX3_ofWhole_10 : decode cX3_ofWhole 10 = .ok (.lneg, 1) := by decide +kernel
theorem dX3_ofWhole_11 : decode cX3_ofWhole 11 = .ok (.iconst 0, 1) := by decide +kernel
theorem dX3_ofWhole_12 : decode cX3_ofWhole 12 = .ok (.iload_n 2, 1) := by decide +kernel
theorem dX3_ofWhole_13 : decode cX3_ofWhole 13 = .ok (.invokestatic 38, 3) := by decide +kernel
theorem dX3_ofWhole_16 : decode cX3_ofWhole 16 = .ok (.goto 10, 3) := by decide +kernel
theorem dX3_ofWhole_19 : decode cX3_ofWhole 19 = .ok (.lconst 0, 1) := by decide +kernel
theorem dX3_ofWhole_20 : decode cX3_ofWhole 20 = .ok (.lload_n 0, 1) := by decide +kernel
theorem dX3_ofWhole_21 : decode cX3_ofWhole 21 = .ok (.iconst 0, 1) := by decide +kernel
theorem dX3_ofWhole_22 : decode cX3_ofWhole 22 = .ok (.iload_n 2, 1) := by decide +kernel
theorem dX3_ofWhole_23 : decode cX3_ofWhole 23 = .ok (.invokestatic 38, 3) := by decide +kernel
theorem dX3_ofWhole_26 : decode cX3_ofWhole 26 = .ok (.lreturn, 1) := by decide +kernel
def fn_X3_ofWhole (h : mz_H) (j0 : Int64) (x2 : Int32) : mz_Res Int64 :=
  if 0 ≤ (lg_cmp j0 0) then
    mz_call (fn_X3_rounded h 0 j0 0 x2) fun v1 h =>
    mz_ret v1 h
  else
    mz_call (fn_X3_rounded h (-9223372036854775808) (-j0) 0 x2) fun v2 h =>
    mz_ret v2 h
set_option maxHeartbeats 4000000 in
set_option maxRecDepth 100000 in
theorem pf_X3_ofWhole_b0 (r : Int64) (Y : mz_Y p g RX3 cX3_ofWhole 3 (some .long) "ofWhole" (mz_AF h0) s m args meth c) (h : mz_H) (j0 : Int64) (x2 : Int32) (dc ds : Nat) (hr : fn_X3_ofWhole h j0 x2 = some (r, hf, dc, ds)) : mz_Go l g p e s m args below meth c 3 80 DC DS h0 (some (Value.long r)) hf 3 0 [(0, true, .long j0), (2, false, .int x2)] [] h dc ds := by
  unfold fn_X3_ofWhole at hr
  intro H locs cells slots ls hH hS hl hc hs
  have X := Y.1
  refine lv_lload_n X.1 X.2.1 dX3_ofWhole_0 rfl (mz_at hl 0 rfl) ?_
  refine lv_lconst (v := 0) X.1 X.2.1 dX3_ofWhole_1 (by decide) ?_
  refine W.lcmp X.1 X.2.1 dX3_ofWhole_2 ?_
  refine mz_if_ge X 19 dX3_ofWhole_3 (by decide) hr (fun hr => ?_) (fun hr => ?_)
  · refine lv_lconst (v := 0) X.1 X.2.1 dX3_ofWhole_19 (by decide) ?_
    refine lv_lload_n X.1 X.2.1 dX3_ofWhole_20 rfl (mz_at hl 0 rfl) ?_
    refine lv_iconst (v := 0) X.1 X.2.1 dX3_ofWhole_21 (by decide) ?_
    refine lv_iload_n X.1 X.2.1 dX3_ofWhole_22 rfl (mz_at hl 1 rfl) ?_
    refine mz_kS Value.long X hH hS hl.1.1 [.long 0, .long j0, .int 0, .int x2] [] hr (ct_X3_rounded l g h 0 j0 0 x2) mb_RX3_38 im_X3_rounded rfl (Nat.le_of_ble_eq_true rfl) ⟨Nat.le_of_ble_eq_true rfl, Nat.le_of_ble_eq_true rfl⟩ hc hs dX3_ofWhole_23 rfl (fun v1 h H locs cells slots dc ds hr hH hS hc hs => ?_)
    exact mz_lret Y dX3_ofWhole_26 hH hS hc hs hr
  · refine mz_ldc2 (v := (-9223372036854775808)) X (mz_tb 683 (by decide +kernel) rfl) dX3_ofWhole_6 ?_
    refine lv_lload_n X.1 X.2.1 dX3_ofWhole_9 rfl (mz_at hl 0 rfl) ?_
    refine lv_lneg X.1 X.2.1 dX3_ofWhole_10 ?_
    refine lv_iconst (v := 0) X.1 X.2.1 dX3_ofWhole_11 (by decide) ?_
    refine lv_iload_n X.1 X.2.1 dX3_ofWhole_12 rfl (mz_at hl 1 rfl) ?_
    refine mz_kS Value.long X hH hS hl.1.1 [.long (-9223372036854775808), .long (-j0), .int 0, .int x2] [] hr (ct_X3_rounded l g h (-9223372036854775808) (-j0) 0 x2) mb_RX3_38 im_X3_rounded rfl (Nat.le_of_ble_eq_true rfl) ⟨Nat.le_of_ble_eq_true rfl, Nat.le_of_ble_eq_true rfl⟩ hc hs dX3_ofWhole_13 rfl (fun v2 h H locs cells slots dc ds hr hH hS hc hs => ?_)
    refine lv_goto (tgt := 26) X.1 X.2.1 dX3_ofWhole_16 (by decide) ?_
    exact mz_lret Y dX3_ofWhole_26 hH hS hc hs hr
set_option maxRecDepth 100000 in
theorem ct_X3_ofWhole (l : Launch) (g : mz_G) (h : mz_H) (j0 : Int64) (x2 : Int32) (r : Int64) (hf : mz_H) (k n : Nat) (hr : fn_X3_ofWhole h j0 x2 = some (r, hf, k, n)) : mz_C l g yX3_ofWhole cX3_ofWhole 3 (some .long) 3 80 [.long j0, .int x2] h (some (Value.long r)) hf k n := by
  refine mz_met (as := [(true, .long j0), (false, .int x2)]) (plainFor_of_name (by decide)) (mz_c1 rfl (mz_c1 rfl mz_c0)) (Nat.le_of_ble_eq_true rfl) ?_
  intro p e s m args below meth c Y
  exact pf_X3_ofWhole_b0 r Y h j0 x2 _ _ hr
theorem dX3_widened_0 : decode cX3_widened 0 = .ok (.iload_n 2, 1) := by decide +kernel
theorem dX3_widened_1 : decode cX3_widened 1 = .ok (.iconst 5, 1) := by decide +kernel
theorem dX3_widened_2 : decode cX3_widened 2 = .ok (.if_icmp .eq 9, 3) := by decide +kernel
theorem dX3_widened_5 : decode cX3_widened 5 = .ok (.iload_n 2, 1) := by decide +kernel
theorem dX3_widened_6 : decode cX3_widened 6 = .ok (.bipush 6, 2) := by decide +kernel
theorem dX3_widened_8 : decode cX3_widened 8 = .ok (.if_icmp .ne 7, 3) := by decide +kernel
theorem dX3_widened_11 : decode cX3_widened 11 = .ok (.iconst 1, 1) := by decide +kernel
theorem dX3_widened_12 : decode cX3_widened 12 = .ok (.goto 4, 3) := by decide +kernel
theorem dX3_widened_15 : decode cX3_widened 15 = .ok (.iconst 0, 1) := by decide +kernel
theorem dX3_widened_16 : decode cX3_widened 16 = .ok (.istore 4, 2) := by decide +kernel
theorem dX3_widened_18 : decode cX3_widened 18 = .ok (.iload 4, 2) := by decide +kernel
theorem dX3_widened_20 : decode cX3_widened 20 = .ok (.ifCond .ne 14, 3) := by decide +kernel
theorem dX3_widened_23 : decode cX3_widened 23 = .ok (.iload_n 3, 1) := by decide +kernel
theorem dX3_widened_24 : decode cX3_widened 24 = .ok (.iconst 5, 1) := by decide +kernel
theorem dX3_widened_25 : decode cX3_widened 25 = .ok (.if_icmp .eq 11, 3) := by decide +kernel
theorem dX3_widened_28 : decode cX3_widened 28 = .ok (.iload_n 3, 1) := by decide +kernel
theorem dX3_widened_29 : decode cX3_widened 29 = .ok (.bipush 6, 2) := by decide +kernel
theorem dX3_widened_31 : decode cX3_widened 31 = .ok (.if_icmp .eq 5, 3) := by decide +kernel
theorem dX3_widened_34 : decode cX3_widened 34 = .ok (.lload_n 0, 1) := by decide +kernel
theorem dX3_widened_35 : decode cX3_widened 35 = .ok (.lreturn, 1) := by decide +kernel
theorem dX3_widened_36 : decode cX3_widened 36 = .ok (.lload_n 0, 1) := by decide +kernel
theorem dX3_widened_37 : decode cX3_widened 37 = .ok (.iload_n 3, 1) := by decide +kernel
theorem dX3_widened_38 : decode cX3_widened 38 = .ok (.iconst 5, 1) := by decide +kernel
theorem dX3_widened_39 : decode cX3_widened 39 = .ok (.if_icmp .ne 7, 3) := by decide +kernel
theorem dX3_widened_42 : decode cX3_widened 42 = .ok (.iconst 1, 1) := by decide +kernel
theorem dX3_widened_43 : decode cX3_widened 43 = .ok (.goto 4, 3) := by decide +kernel
theorem dX3_widened_46 : decode cX3_widened 46 = .ok (.iconst 0, 1) := by decide +kernel
theorem dX3_widened_47 : decode cX3_widened 47 = .ok (.invokestatic 25, 3) := by decide +kernel
theorem dX3_widened_50 : decode cX3_widened 50 = .ok (.lreturn, 1) := by decide +kernel
def fn_X3_widened_b47 (h : mz_H) (s0 : Int64) (s1 : Int32) : mz_Res Int64 :=
  mz_call (fn_X3_ofWhole h s0 s1) fun v1 h =>
  mz_ret v1 h
set_option maxHeartbeats 4000000 in
set_option maxRecDepth 100000 in
theorem pf_X3_widened_b47 (r : Int64) (Y : mz_Y p g RX3 cX3_widened 5 (some .long) "widened" (mz_AF h0) s m args meth c) (h : mz_H) (s0 : Int64) (s1 : Int32) (dc ds : Nat) (hr : fn_X3_widened_b47 h s0 s1 = some (r, hf, dc, ds)) : mz_Go l g p e s m args below meth c 4 102 DC DS h0 (some (Value.long r)) hf 5 47 [] [.int s1, .long s0] h dc ds := by
  unfold fn_X3_widened_b47 at hr
  intro H locs cells slots ls hH hS hl hc hs
  have X := Y.1
  refine mz_kS Value.long X hH hS hl.1.1 [.long s0, .int s1] [] hr (ct_X3_ofWhole l g h s0 s1) mb_RX3_25 im_X3_ofWhole rfl (Nat.le_of_ble_eq_true rfl) ⟨Nat.le_of_ble_eq_true rfl, Nat.le_of_ble_eq_true rfl⟩ hc hs dX3_widened_47 rfl (fun v1 h H locs cells slots dc ds hr hH hS hc hs => ?_)
  exact mz_lret Y dX3_widened_50 hH hS hc hs hr
def fn_X3_widened_b36 (h : mz_H) (j0 : Int64) (x3 : Int32) : mz_Res Int64 :=
  if x3 = 5 then
    fn_X3_widened_b47 h j0 1
  else
    fn_X3_widened_b47 h j0 0
set_option maxHeartbeats 4000000 in
set_option maxRecDepth 100000 in
theorem pf_X3_widened_b36 (r : Int64) (Y : mz_Y p g RX3 cX3_widened 5 (some .long) "widened" (mz_AF h0) s m args meth c) (h : mz_H) (j0 : Int64) (x3 : Int32) (dc ds : Nat) (hr : fn_X3_widened_b36 h j0 x3 = some (r, hf, dc, ds)) : mz_Go l g p e s m args below meth c 4 102 DC DS h0 (some (Value.long r)) hf 5 36 [(0, true, .long j0), (3, false, .int x3)] [] h dc ds := by
  unfold fn_X3_widened_b36 at hr
  intro H locs cells slots ls hH hS hl hc hs
  have X := Y.1
  refine lv_lload_n X.1 X.2.1 dX3_widened_36 rfl (mz_at hl 0 rfl) ?_
  refine lv_iload_n X.1 X.2.1 dX3_widened_37 rfl (mz_at hl 1 rfl) ?_
  refine lv_iconst (v := 5) X.1 X.2.1 dX3_widened_38 (by decide) ?_
  refine mz_icmp_ne X 46 dX3_widened_39 (by decide) hr (fun hr => ?_) (fun hr => ?_)
  · refine lv_iconst (v := 0) X.1 X.2.1 dX3_widened_46 (by decide) ?_
    exact pf_X3_widened_b47 r Y h j0 0 _ _ hr H locs cells slots ls hH hS (mz_sub hl [] rfl) hc hs
  · refine lv_iconst (v := 1) X.1 X.2.1 dX3_widened_42 (by decide) ?_
    refine lv_goto (tgt := 47) X.1 X.2.1 dX3_widened_43 (by decide) ?_
    exact pf_X3_widened_b47 r Y h j0 1 _ _ hr H locs cells slots ls hH hS (mz_sub hl [] rfl) hc hs
def fn_X3_widened_b16 (h : mz_H) (j0 : Int64) (x3 : Int32) (s0 : Int32) : mz_Res Int64 :=
  if s0 = 0 then
    if x3 = 5 then
      fn_X3_widened_b36 h j0 x3
    else
      if x3 = 6 then
        fn_X3_widened_b36 h j0 x3
      else
        mz_ret j0 h
  else
    mz_ret j0 h
set_option maxHeartbeats 4000000 in
set_option maxRecDepth 100000 in
theorem pf_X3_widened_b16 (r : Int64) (Y : mz_Y p g RX3 cX3_widened 5 (some .long) "widened" (mz_AF h0) s m args meth c) (h : mz_H) (j0 : Int64) (x3 : Int32) (s0 : Int32) (dc ds : Nat) (hr : fn_X3_widened_b16 h j0 x3 s0 = some (r, hf, dc, ds)) : mz_Go l g p e s m args below meth c 4 102 DC DS h0 (some (Value.long r)) hf 5 16 [(0, true, .long j0), (3, false, .int x3)] [.int s0] h dc ds := by
  unfold fn_X3_widened_b16 at hr
  intro H locs cells slots ls hH hS hl hc hs
  have X := Y.1
  refine mz_istore X [(4, false, .int s0), (0, true, .long j0), (3, false, .int x3)] dX3_widened_16 hl (by decide) rfl (fun ls hl => ?_)
  refine lv_iload X.1 X.2.1 dX3_widened_18 (mz_at hl 0 rfl) ?_
  refine mz_if_ne X 34 dX3_widened_20 (by decide) hr (fun hr => ?_) (fun hr => ?_)
  · refine lv_lload_n X.1 X.2.1 dX3_widened_34 rfl (mz_at hl 1 rfl) ?_
    exact mz_lret Y dX3_widened_35 hH hS hc hs hr
  · refine lv_iload_n X.1 X.2.1 dX3_widened_23 rfl (mz_at hl 2 rfl) ?_
    refine lv_iconst (v := 5) X.1 X.2.1 dX3_widened_24 (by decide) ?_
    refine mz_icmp_eq X 36 dX3_widened_25 (by decide) hr (fun hr => ?_) (fun hr => ?_)
    · exact pf_X3_widened_b36 r Y h j0 x3 _ _ hr H locs cells slots ls hH hS (mz_sub hl [1, 2] rfl) hc hs
    · refine lv_iload_n X.1 X.2.1 dX3_widened_28 rfl (mz_at hl 2 rfl) ?_
      refine lv_bipush (v := 6) X.1 X.2.1 dX3_widened_29 (by decide) ?_
      refine mz_icmp_eq X 36 dX3_widened_31 (by decide) hr (fun hr => ?_) (fun hr => ?_)
      · exact pf_X3_widened_b36 r Y h j0 x3 _ _ hr H locs cells slots ls hH hS (mz_sub hl [1, 2] rfl) hc hs
      · refine lv_lload_n X.1 X.2.1 dX3_widened_34 rfl (mz_at hl 1 rfl) ?_
        exact mz_lret Y dX3_widened_35 hH hS hc hs hr
def fn_X3_widened_b11 (h : mz_H) (j0 : Int64) (x3 : Int32) : mz_Res Int64 :=
  fn_X3_widened_b16 h j0 x3 1
set_option maxHeartbeats 4000000 in
set_option maxRecDepth 100000 in
theorem pf_X3_widened_b11 (r : Int64) (Y : mz_Y p g RX3 cX3_widened 5 (some .long) "widened" (mz_AF h0) s m args meth c) (h : mz_H) (j0 : Int64) (x3 : Int32) (dc ds : Nat) (hr : fn_X3_widened_b11 h j0 x3 = some (r, hf, dc, ds)) : mz_Go l g p e s m args below meth c 4 102 DC DS h0 (some (Value.long r)) hf 5 11 [(0, true, .long j0), (3, false, .int x3)] [] h dc ds := by
  unfold fn_X3_widened_b11 at hr
  intro H locs cells slots ls hH hS hl hc hs
  have X := Y.1
  refine lv_iconst (v := 1) X.1 X.2.1 dX3_widened_11 (by decide) ?_
  refine lv_goto (tgt := 16) X.1 X.2.1 dX3_widened_12 (by decide) ?_
  exact pf_X3_widened_b16 r Y h j0 x3 1 _ _ hr H locs cells slots ls hH hS (mz_sub hl [0, 1] rfl) hc hs
def fn_X3_widened (h : mz_H) (j0 : Int64) (x2 : Int32) (x3 : Int32) : mz_Res Int64 :=
  if x2 = 5 then
    fn_X3_widened_b11 h j0 x3
  else
    if x2 = 6 then
      fn_X3_widened_b11 h j0 x3
    else
      fn_X3_widened_b16 h j0 x3 0
set_option maxHeartbeats 4000000 in
set_option maxRecDepth 100000 in
theorem pf_X3_widened_b0 (r : Int64) (Y : mz_Y p g RX3 cX3_widened 5 (some .long) "widened" (mz_AF h0) s m args meth c) (h : mz_H) (j0 : Int64) (x2 : Int32) (x3 : Int32) (dc ds : Nat) (hr : fn_X3_widened h j0 x2 x3 = some (r, hf, dc, ds)) : mz_Go l g p e s m args below meth c 4 102 DC DS h0 (some (Value.long r)) hf 5 0 [(0, true, .long j0), (2, false, .int x2), (3, false, .int x3)] [] h dc ds := by
  unfold fn_X3_widened at hr
  intro H locs cells slots ls hH hS hl hc hs
  have X := Y.1
  refine lv_iload_n X.1 X.2.1 dX3_widened_0 rfl (mz_at hl 1 rfl) ?_
  refine lv_iconst (v := 5) X.1 X.2.1 dX3_widened_1 (by decide) ?_
  refine mz_icmp_eq X 11 dX3_widened_2 (by decide) hr (fun hr => ?_) (fun hr => ?_)
  · exact pf_X3_widened_b11 r Y h j0 x3 _ _ hr H locs cells slots ls hH hS (mz_sub hl [0, 2] rfl) hc hs
  · refine lv_iload_n X.1 X.2.1 dX3_widened_5 rfl (mz_at hl 1 rfl) ?_
    refine lv_bipush (v := 6) X.1 X.2.1 dX3_widened_6 (by decide) ?_
    refine mz_icmp_ne X 15 dX3_widened_8 (by decide) hr (fun hr => ?_) (fun hr => ?_)
    · refine lv_iconst (v := 0) X.1 X.2.1 dX3_widened_15 (by decide) ?_
      exact pf_X3_widened_b16 r Y h j0 x3 0 _ _ hr H locs cells slots ls hH hS (mz_sub hl [0, 2] rfl) hc hs
    · exact pf_X3_widened_b11 r Y h j0 x3 _ _ hr H locs cells slots ls hH hS (mz_sub hl [0, 2] rfl) hc hs
set_option maxRecDepth 100000 in
theorem ct_X3_widened (l : Launch) (g : mz_G) (h : mz_H) (j0 : Int64) (x2 : Int32) (x3 : Int32) (r : Int64) (hf : mz_H) (k n : Nat) (hr : fn_X3_widened h j0 x2 x3 = some (r, hf, k, n)) : mz_C l g yX3_widened cX3_widened 5 (some .long) 4 102 [.long j0, .int x2, .int x3] h (some (Value.long r)) hf k n := by
  refine mz_met (as := [(true, .long j0), (false, .int x2), (false, .int x3)]) (plainFor_of_name (by decide)) (mz_c1 rfl (mz_c1 rfl (mz_c1 rfl mz_c0))) (Nat.le_of_ble_eq_true rfl) ?_
  intro p e s m args below meth c Y
  exact pf_X3_widened_b0 r Y h j0 x2 x3 _ _ hr
theorem dX3_isZero_0 : decode cX3_isZero 0 = .ok (.lload_n 0, 1) := by decide +kernel
theorem dX3_isZero_1 : decode cX3_isZero 1 = .ok (.ldc2_w 31, 3) := by decide +kernel
theorem dX3_isZero_4 : decode cX3_isZero 4 = .ok (.land, 1) := by decide +kernel
theorem dX3_isZero_5 : decode cX3_isZero 5 = .ok (.lconst 0, 1) := by decide +kernel
theorem dX3_isZero_6 : decode cX3_isZero 6 = .ok (.lcmp, 1) := by decide +kernel
theorem dX3_isZero_7 : decode cX3_isZero 7 = .ok (.ifCond .ne 7, 3) := by decide +kernel
theorem dX3_isZero_10 : decode cX3_isZero 10 = .ok (.iconst 1, 1) := by decide +kernel
theorem dX3_isZero_11 : decode cX3_isZero 11 = .ok (.goto 4, 3) := by decide +kernel
theorem dX3_isZero_14 : decode cX3_isZero 14 = .ok (.iconst 0, 1) := by decide +kernel
theorem dX3_isZero_15 : decode cX3_isZero 15 = .ok (.ireturn, 1) := by decide +kernel
def fn_X3_isZero (h : mz_H) (j0 : Int64) : mz_Res Int32 :=
  if (lg_cmp (j0 &&& 9223372036854775807) 0) = 0 then
    mz_chk ((1 : Int32) &&& 1 == 1) (mz_ret 1 h)
  else
    mz_chk ((0 : Int32) &&& 1 == 0) (mz_ret 0 h)
set_option maxHeartbeats 4000000 in
set_option maxRecDepth 100000 in
theorem pf_X3_isZero_b0 (r : Int32) (Y : mz_Y p g RX3 cX3_isZero 2 (some .boolean) "isZero" (mz_AF h0) s m args meth c) (h : mz_H) (j0 : Int64) (dc ds : Nat) (hr : fn_X3_isZero h j0 = some (r, hf, dc, ds)) : mz_Go l g p e s m args below meth c 0 0 DC DS h0 (some (Value.int r)) hf 2 0 [(0, true, .long j0)] [] h dc ds := by
  unfold fn_X3_isZero at hr
  intro H locs cells slots ls hH hS hl hc hs
  have X := Y.1
  refine lv_lload_n X.1 X.2.1 dX3_isZero_0 rfl (mz_at hl 0 rfl) ?_
  refine mz_ldc2 (v := 9223372036854775807) X (mz_tb 677 (by decide +kernel) rfl) dX3_isZero_1 ?_
  refine lv_land X.1 X.2.1 dX3_isZero_4 ?_
  refine lv_lconst (v := 0) X.1 X.2.1 dX3_isZero_5 (by decide) ?_
  refine W.lcmp X.1 X.2.1 dX3_isZero_6 ?_
  refine mz_if_ne X 14 dX3_isZero_7 (by decide) hr (fun hr => ?_) (fun hr => ?_)
  · refine lv_iconst (v := 0) X.1 X.2.1 dX3_isZero_14 (by decide) ?_
    exact mz_zret Y dX3_isZero_15 hH hS hc hs hr
  · refine lv_iconst (v := 1) X.1 X.2.1 dX3_isZero_10 (by decide) ?_
    refine lv_goto (tgt := 15) X.1 X.2.1 dX3_isZero_11 (by decide) ?_
    exact mz_zret Y dX3_isZero_15 hH hS hc hs hr
set_option maxRecDepth 100000 in
theorem ct_X3_isZero (l : Launch) (g : mz_G) (h : mz_H) (j0 : Int64) (r : Int32) (hf : mz_H) (k n : Nat) (hr : fn_X3_isZero h j0 = some (r, hf, k, n)) : mz_C l g yX3_isZero cX3_isZero 2 (some .boolean) 0 0 [.long j0] h (some (Value.int r)) hf k n := by
  refine mz_met (as := [(true, .long j0)]) (plainFor_of_name (by decide)) (mz_c1 rfl mz_c0) (Nat.le_of_ble_eq_true rfl) ?_
  intro p e s m args below meth c Y
  exact pf_X3_isZero_b0 r Y h j0 _ _ hr
theorem dX3_negated_0 : decode cX3_negated 0 = .ok (.lload_n 0, 1) := by decide +kernel
theorem dX3_negated_1 : decode cX3_negated 1 = .ok (.ldc2_w 33, 3) := by decide +kernel
theorem dX3_negated_4 : decode cX3_negated 4 = .ok (.lxor, 1) := by decide +kernel
theorem dX3_negated_5 : decode cX3_negated 5 = .ok (.lreturn, 1) := by decide +kernel
def fn_X3_negated (h : mz_H) (j0 : Int64) : mz_Res Int64 :=
  mz_ret (j0 ^^^ (-9223372036854775808)) h
set_option maxHeartbeats 4000000 in
set_option maxRecDepth 100000 in
theorem pf_X3_negated_b0 (r : Int64) (Y : mz_Y p g RX3 cX3_negated 2 (some .long) "negated" (mz_AF h0) s m args meth c) (h : mz_H) (j0 : Int64) (dc ds : Nat) (hr : fn_X3_negated h j0 = some (r, hf, dc, ds)) : mz_Go l g p e s m args below meth c 0 0 DC DS h0 (some (Value.long r)) hf 2 0 [(0, true, .long j0)] [] h dc ds := by
  unfold fn_X3_negated at hr
  intro H locs cells slots ls hH hS hl hc hs
  have X := Y.1
  refine lv_lload_n X.1 X.2.1 dX3_negated_0 rfl (mz_at hl 0 rfl) ?_
  refine mz_ldc2 (v := (-9223372036854775808)) X (mz_tb 683 (by decide +kernel) rfl) dX3_negated_1 ?_
  refine lv_lxor X.1 X.2.1 dX3_negated_4 ?_
  exact mz_lret Y dX3_negated_5 hH hS hc hs hr
set_option maxRecDepth 100000 in
theorem ct_X3_negated (l : Launch) (g : mz_G) (h : mz_H) (j0 : Int64) (r : Int64) (hf : mz_H) (k n : Nat) (hr : fn_X3_negated h j0 = some (r, hf, k, n)) : mz_C l g yX3_negated cX3_negated 2 (some .long) 0 0 [.long j0] h (some (Value.long r)) hf k n := by
  refine mz_met (as := [(true, .long j0)]) (plainFor_of_name (by decide)) (mz_c1 rfl mz_c0) (Nat.le_of_ble_eq_true rfl) ?_
  intro p e s m args below meth c Y
  exact pf_X3_negated_b0 r Y h j0 _ _ hr
theorem dX3_inOrder_0 : decode cX3_inOrder 0 = .ok (.lload_n 0, 1) := by decide +kernel
theorem dX3_inOrder_1 : decode cX3_inOrder 1 = .ok (.lconst 0, 1) := by decide +kernel
theorem dX3_inOrder_2 : decode cX3_inOrder 2 = .ok (.lcmp, 1) := by decide +kernel
theorem dX3_inOrder_3 : decode cX3_inOrder 3 = .ok (.ifCond .ge 11, 3) := by decide +kernel
theorem dX3_inOrder_6 : decode cX3_inOrder 6 = .ok (.lload_n 0, 1) := by decide +kernel
theorem dX3_inOrder_7 : decode cX3_inOrder 7 = .ok (.ldc2_w 31, 3) := by decide +kernel
theorem dX3_inOrder_10 : decode cX3_inOrder 10 = .ok (.lxor, 1) := by decide +kernel
theorem dX3_inOrder_11 : decode cX3_inOrder 11 = .ok (.goto 4, 3) := by decide +kernel
theorem dX3_inOrder_14 : decode cX3_inOrder 14 = .ok (.lload_n 0, 1) := by decide +kernel
theorem dX3_inOrder_15 : decode cX3_inOrder 15 = .ok (.lreturn, 1) := by decide +kernel
def fn_X3_inOrder (h : mz_H) (j0 : Int64) : mz_Res Int64 :=
  if 0 ≤ (lg_cmp j0 0) then
    mz_ret j0 h
  else
    mz_ret (j0 ^^^ 9223372036854775807) h
set_option maxHeartbeats 4000000 in
set_option maxRecDepth 100000 in
theorem pf_X3_inOrder_b0 (r : Int64) (Y : mz_Y p g RX3 cX3_inOrder 2 (some .long) "inOrder" (mz_AF h0) s m args meth c) (h : mz_H) (j0 : Int64) (dc ds : Nat) (hr : fn_X3_inOrder h j0 = some (r, hf, dc, ds)) : mz_Go l g p e s m args below meth c 0 0 DC DS h0 (some (Value.long r)) hf 2 0 [(0, true, .long j0)] [] h dc ds := by
  unfold fn_X3_inOrder at hr
  intro H locs cells slots ls hH hS hl hc hs
  have X := Y.1
  refine lv_lload_n X.1 X.2.1 dX3_inOrder_0 rfl (mz_at hl 0 rfl) ?_
  refine lv_lconst (v := 0) X.1 X.2.1 dX3_inOrder_1 (by decide) ?_
  refine W.lcmp X.1 X.2.1 dX3_inOrder_2 ?_
  refine mz_if_ge X 14 dX3_inOrder_3 (by decide) hr (fun hr => ?_) (fun hr => ?_)
  · refine lv_lload_n X.1 X.2.1 dX3_inOrder_14 rfl (mz_at hl 0 rfl) ?_
    exact mz_lret Y dX3_inOrder_15 hH hS hc hs hr
  · refine lv_lload_n X.1 X.2.1 dX3_inOrder_6 rfl (mz_at hl 0 rfl) ?_
    refine mz_ldc2 (v := 9223372036854775807) X (mz_tb 677 (by decide +kernel) rfl) dX3_inOrder_7 ?_
    refine lv_lxor X.1 X.2.1 dX3_inOrder_10 ?_
    refine lv_goto (tgt := 15) X.1 X.2.1 dX3_inOrder_11 (by decide) ?_
    exact mz_lret Y dX3_inOrder_15 hH hS hc hs hr
set_option maxRecDepth 100000 in
theorem ct_X3_inOrder (l : Launch) (g : mz_G) (h : mz_H) (j0 : Int64) (r : Int64) (hf : mz_H) (k n : Nat) (hr : fn_X3_inOrder h j0 = some (r, hf, k, n)) : mz_C l g yX3_inOrder cX3_inOrder 2 (some .long) 0 0 [.long j0] h (some (Value.long r)) hf k n := by
  refine mz_met (as := [(true, .long j0)]) (plainFor_of_name (by decide)) (mz_c1 rfl mz_c0) (Nat.le_of_ble_eq_true rfl) ?_
  intro p e s m args below meth c Y
  exact pf_X3_inOrder_b0 r Y h j0 _ _ hr
theorem dX3_isLess_0 : decode cX3_isLess 0 = .ok (.lload_n 0, 1) := by decide +kernel
theorem dX3_isLess_1 : decode cX3_isLess 1 = .ok (.invokestatic 35, 3) := by decide +kernel
theorem dX3_isLess_4 : decode cX3_isLess 4 = .ok (.lload_n 2, 1) := by decide +kernel
theorem dX3_isLess_5 : decode cX3_isLess 5 = .ok (.invokestatic 35, 3) := by decide +kernel
theorem dX3_isLess_8 : decode cX3_isLess 8 = .ok (.lcmp, 1) := by decide +kernel
theorem dX3_isLess_9 : decode cX3_isLess 9 = .ok (.ifCond .ge 7, 3) := by decide +kernel
theorem dX3_isLess_12 : decode cX3_isLess 12 = .ok (.iconst 1, 1) := by decide +kernel
theorem dX3_isLess_13 : decode cX3_isLess 13 = .ok (.goto 4, 3) := by decide +kernel
theorem dX3_isLess_16 : decode cX3_isLess 16 = .ok (.iconst 0, 1) := by decide +kernel
theorem dX3_isLess_17 : decode cX3_isLess 17 = .ok (.ireturn, 1) := by decide +kernel
def fn_X3_isLess (h : mz_H) (j0 : Int64) (j2 : Int64) : mz_Res Int32 :=
  mz_call (fn_X3_inOrder h j0) fun v1 h =>
  mz_call (fn_X3_inOrder h j2) fun v2 h =>
  if 0 ≤ (lg_cmp v1 v2) then
    mz_chk ((0 : Int32) &&& 1 == 0) (mz_ret 0 h)
  else
    mz_chk ((1 : Int32) &&& 1 == 1) (mz_ret 1 h)
set_option maxHeartbeats 4000000 in
set_option maxRecDepth 100000 in
theorem pf_X3_isLess_b0 (r : Int32) (Y : mz_Y p g RX3 cX3_isLess 4 (some .boolean) "isLess" (mz_AF h0) s m args meth c) (h : mz_H) (j0 : Int64) (j2 : Int64) (dc ds : Nat) (hr : fn_X3_isLess h j0 j2 = some (r, hf, dc, ds)) : mz_Go l g p e s m args below meth c 1 21 DC DS h0 (some (Value.int r)) hf 4 0 [(0, true, .long j0), (2, true, .long j2)] [] h dc ds := by
  unfold fn_X3_isLess at hr
  intro H locs cells slots ls hH hS hl hc hs
  have X := Y.1
  refine lv_lload_n X.1 X.2.1 dX3_isLess_0 rfl (mz_at hl 0 rfl) ?_
  refine mz_kS Value.long X hH hS hl.1.1 [.long j0] [] hr (ct_X3_inOrder l g h j0) mb_RX3_35 im_X3_inOrder rfl (Nat.le_of_ble_eq_true rfl) ⟨Nat.le_of_ble_eq_true rfl, Nat.le_of_ble_eq_true rfl⟩ hc hs dX3_isLess_1 rfl (fun v1 h H locs cells slots dc ds hr hH hS hc hs => ?_)
  refine lv_lload_n X.1 X.2.1 dX3_isLess_4 rfl (mz_at hl 1 rfl) ?_
  refine mz_kS Value.long X hH hS hl.1.1 [.long j2] [.long v1] hr (ct_X3_inOrder l g h j2) mb_RX3_35 im_X3_inOrder rfl (Nat.le_of_ble_eq_true rfl) ⟨Nat.le_of_ble_eq_true rfl, Nat.le_of_ble_eq_true rfl⟩ hc hs dX3_isLess_5 rfl (fun v2 h H locs cells slots dc ds hr hH hS hc hs => ?_)
  refine W.lcmp X.1 X.2.1 dX3_isLess_8 ?_
  refine mz_if_ge X 16 dX3_isLess_9 (by decide) hr (fun hr => ?_) (fun hr => ?_)
  · refine lv_iconst (v := 0) X.1 X.2.1 dX3_isLess_16 (by decide) ?_
    exact mz_zret Y dX3_isLess_17 hH hS hc hs hr
  · refine lv_iconst (v := 1) X.1 X.2.1 dX3_isLess_12 (by decide) ?_
    refine lv_goto (tgt := 17) X.1 X.2.1 dX3_isLess_13 (by decide) ?_
    exact mz_zret Y dX3_isLess_17 hH hS hc hs hr
set_option maxRecDepth 100000 in
theorem ct_X3_isLess (l : Launch) (g : mz_G) (h : mz_H) (j0 : Int64) (j2 : Int64) (r : Int32) (hf : mz_H) (k n : Nat) (hr : fn_X3_isLess h j0 j2 = some (r, hf, k, n)) : mz_C l g yX3_isLess cX3_isLess 4 (some .boolean) 1 21 [.long j0, .long j2] h (some (Value.int r)) hf k n := by
  refine mz_met (as := [(true, .long j0), (true, .long j2)]) (plainFor_of_name (by decide)) (mz_c1 rfl (mz_c1 rfl mz_c0)) (Nat.le_of_ble_eq_true rfl) ?_
  intro p e s m args below meth c Y
  exact pf_X3_isLess_b0 r Y h j0 j2 _ _ hr
end

/-! X7_entryAt X7_forget X7_tell X11_isName X7_takeMember X7_takeMembers X7_gather X7_lookForClash X7_lookForSecondKey X7_read X8_init X8_init_ X8_slotAt X8_slotNumber X8_slotNamed X8_hasKey X8_isLike -/
section
variable {p : Program} {l : Launch} {e : Env} {s : State} {m : MethodId} {args : Array Value} {below : List Frame} {meth : Method} {c : Code} {g : mz_G} {h0 hf : mz_H} {DC DS : Nat}
theorem dX7_entryAt_0 : decode cX7_entryAt 0 = .ok (.iload_n 1, 1) := by decide +kernel
theorem dX7_entryAt_1 : decode cX7_entryAt 1 = .ok (.ifCond .lt 20, 3) := by decide +kernel
theorem dX7_entryAt_4 : decode cX7_entryAt 4 = .ok (.iload_n 1, 1) := by decide +kernel
theorem dX7_entryAt_5 : decode cX7_entryAt 5 = .ok (.aload_n 0, 1) := by decide +kernel
theorem dX7_entryAt_6 : decode cX7_entryAt 6 = .ok (.getfield 33, 3) := by decide +kernel
theorem dX7_entryAt_9 : decode cX7_entryAt 9 = .ok (.if_icmp .ge 12, 3) := by decide +kernel
theorem dX7_entryAt_12 : decode cX7_entryAt 12 = .ok (.aload_n 0, 1) := by decide +kernel
theorem dX7_entryAt_13 : decode cX7_entryAt 13 = .ok (.getfield 17, 3) := by decide +kernel
theorem dX7_entryAt_16 : decode cX7_entryAt 16 = .ok (.iload_n 1, 1) := by decide +kernel
theorem dX7_entryAt_17 : decode cX7_entryAt 17 = .ok (.aaload, 1) := by decide +kernel
theorem dX7_entryAt_18 : decode cX7_entryAt 18 = .ok (.goto 4, 3) := by decide +kernel
theorem dX7_entryAt_21 : decode cX7_entryAt 21 = .ok (.aconst_null, 1) := by decide +kernel
theorem dX7_entryAt_22 : decode cX7_entryAt 22 = .ok (.areturn, 1) := by decide +kernel
def fn_X7_entryAt (h : mz_H) (a0 : (Option Nat)) (x1 : Int32) : mz_Res (Option Nat) :=
  if x1 < 0 then
    mz_ret none h
  else
    mz_op (mz_fI h a0 6 2) fun v1 =>
    if v1 ≤ x1 then
      mz_ret none h
    else
      mz_op (mz_fR h a0 6 1) fun v2 =>
      mz_op (mz_aR h v2 11 x1) fun v3 =>
      mz_ret v3 h
set_option maxHeartbeats 4000000 in
set_option maxRecDepth 100000 in
theorem pf_X7_entryAt_b0 (r : (Option Nat)) (Y : mz_Y p g RX7 cX7_entryAt 2 (some (.object "MemberScanner$Entry")) "entryAt" (mz_AF h0) s m args meth c) (h : mz_H) (a0 : (Option Nat)) (x1 : Int32) (dc ds : Nat) (hr : fn_X7_entryAt h a0 x1 = some (r, hf, dc, ds)) : mz_Go l g p e s m args below meth c 0 0 DC DS h0 (some (va_rf r)) hf 2 0 [(0, false, va_rf a0), (1, false, .int x1)] [] h dc ds := by
  unfold fn_X7_entryAt at hr
  intro H locs cells slots ls hH hS hl hc hs
  have X := Y.1
  refine lv_iload_n X.1 X.2.1 dX7_entryAt_0 rfl (mz_at hl 1 rfl) ?_
  refine mz_if_lt X 21 dX7_entryAt_1 (by decide) hr (fun hr => ?_) (fun hr => ?_)
  · refine mz_null X dX7_entryAt_21 ?_
    exact mz_aret Y dX7_entryAt_22 hH hS hc hs hr
  · refine lv_iload_n X.1 X.2.1 dX7_entryAt_4 rfl (mz_at hl 1 rfl) ?_
    refine mz_aload_n X dX7_entryAt_5 rfl (mz_at hl 0 rfl) ?_
    refine mz_getI X hH fl_RX7_33 dX7_entryAt_6 hr (fun v1 hr => ?_)
    refine mz_icmp_ge X 21 dX7_entryAt_9 (by decide) hr (fun hr => ?_) (fun hr => ?_)
    · refine mz_null X dX7_entryAt_21 ?_
      exact mz_aret Y dX7_entryAt_22 hH hS hc hs hr
    · refine mz_aload_n X dX7_entryAt_12 rfl (mz_at hl 0 rfl) ?_
      refine mz_getR X hH fl_RX7_17 dX7_entryAt_13 hr (fun v2 hr => ?_)
      refine lv_iload_n X.1 X.2.1 dX7_entryAt_16 rfl (mz_at hl 1 rfl) ?_
      refine mz_aald (t := 11) X hH (by decide) rfl dX7_entryAt_17 hr (fun v3 hr => ?_)
      refine lv_goto (tgt := 22) X.1 X.2.1 dX7_entryAt_18 (by decide) ?_
      exact mz_aret Y dX7_entryAt_22 hH hS hc hs hr
set_option maxRecDepth 100000 in
theorem ct_X7_entryAt (l : Launch) (g : mz_G) (h : mz_H) (a0 : (Option Nat)) (x1 : Int32) (r : (Option Nat)) (hf : mz_H) (k n : Nat) (hr : fn_X7_entryAt h a0 x1 = some (r, hf, k, n)) : mz_C l g yX7_entryAt cX7_entryAt 2 (some (.object "MemberScanner$Entry")) 0 0 [va_rf a0, .int x1] h (some (va_rf r)) hf k n := by
  refine mz_met (as := [(false, va_rf a0), (false, .int x1)]) (plainFor_of_name (by decide)) (mz_c1 (mz_cat_rf _) (mz_c1 rfl mz_c0)) (Nat.le_of_ble_eq_true rfl) ?_
  intro p e s m args below meth c Y
  exact pf_X7_entryAt_b0 r Y h a0 x1 _ _ hr
theorem dX7_forget_0 : decode cX7_forget 0 = .ok (.iconst 0, 1) := by decide +kernel
theorem dX7_forget_1 : decode cX7_forget 1 = .ok (.istore_n 1, 1) := by decide +kernel
theorem dX7_forget_2 : decode cX7_forget 2 = .ok (.iload_n 1, 1) := by decide +kernel
theorem dX7_forget_3 : decode cX7_forget 3 = .ok (.bipush 31, 2) := by decide +kernel
theorem dX7_forget_5 : decode cX7_forget 5 = .ok (.if_icmp .ge 18, 3) := by decide +kernel
theorem dX7_forget_8 : decode cX7_forget 8 = .ok (.aload_n 0, 1) := by decide +kernel
theorem dX7_forget_9 : decode cX7_forget 9 = .ok (.getfield 11, 3) := by decide +kernel
theorem dX7_forget_12 : decode cX7_forget 12 = .ok (.iload_n 1, 1) := by decide +kernel
theorem dX7_forget_13 : decode cX7_forget 13 = .ok (.aaload, 1) := by decide +kernel
theorem dX7_forget_14 : decode cX7_forget 14 = .ok (.invokevirtual 69, 3) := by decide +kernel
theorem dX7_forget_17 : decode cX7_forget 17 = .ok (.iinc 1 1, 3) := by decide +kernel
theorem dX7_forget_20 : decode cX7_forget 20 = .ok (.goto (-18), 3) := by decide +kernel
theorem dX7_forget_23 : decode cX7_forget 23 = .ok (.aload_n 0, 1) := by decide +kernel
theorem dX7_forget_24 : decode cX7_forget 24 = .ok (.iconst 0, 1) := by decide +kernel
theorem dX7_forget_25 : decode cX7_forget 25 = .ok (.putfield 66, 3) := by decide +kernel
theorem dX7_forget_28 : decode cX7_forget 28 = .ok (.aload_n 0, 1) := by decide +kernel
theorem dX7_forget_29 : decode cX7_forget 29 = .ok (.bipush (-9), 2) := by decide +kernel
theorem dX7_forget_31 : decode cX7_forget 31 = .ok (.putfield 20, 3) := by decide +kernel
theorem dX7_forget_34 : decode cX7_forget 34 = .ok (.aload_n 0, 1) := by decide +kernel
theorem dX7_forget_35 : decode cX7_forget 35 = .ok (.bipush (-9), 2) := by decide +kernel
theorem dX7_forget_37 : decode cX7_forget 37 = .ok (.putfield 24, 3) := by decide +kernel
theorem dX7_forget_40 : decode cX7_forget 40 = .ok (.aload_n 0, 1) := by decide +kernel
theorem dX7_forget_41 : decode cX7_forget 41 = .ok (.bipush (-9), 2) := by decide +kernel
theorem dX7_forget_43 : decode cX7_forget 43 = .ok (.putfield 27, 3) := by decide +kernel
theorem dX7_forget_46 : decode cX7_forget 46 = .ok (.return_, 1) := by decide +kernel
def fn_X7_forget_b2 : Nat → mz_H → (Option Nat) → Int32 → mz_Res Unit
  | 0, _, _, _ => none
  | n + 1, h, a0, x1 =>
    if 31 ≤ x1 then
      mz_op (mz_pF h a0 6 3 (Value.int 0)) fun h =>
      mz_op (mz_pF h a0 6 4 (Value.int (-9))) fun h =>
      mz_op (mz_pF h a0 6 5 (Value.int (-9))) fun h =>
      mz_op (mz_pF h a0 6 6 (Value.int (-9))) fun h =>
      mz_ret () h
    else
      mz_op (mz_fR h a0 6 0) fun v1 =>
      mz_op (mz_aR h v1 11 x1) fun v2 =>
      mz_chk (mz_is h v2 1) <| mz_call (fn_X1_forget h v2) fun _ h =>
      mz_op (some (x1 + 1)) fun v3 =>
      fn_X7_forget_b2 n h a0 v3
set_option maxHeartbeats 4000000 in
set_option maxRecDepth 100000 in
theorem pf_X7_forget_b2 (r : Unit) (Y : mz_Y p g RX7 cX7_forget 2 none "forget" (mz_AF h0) s m args meth c) : ∀ (n : Nat) (h : mz_H) (a0 : (Option Nat)) (x1 : Int32) (dc ds : Nat), fn_X7_forget_b2 n h a0 x1 = some (r, hf, dc, ds) → mz_Go l g p e s m args below meth c 1 20 DC DS h0 none hf 2 2 [(0, false, va_rf a0), (1, false, .int x1)] [] h dc ds := by
  have X := Y.1
  intro n
  induction n with
  | zero => intro h a0 x1 dc ds hr; simp [fn_X7_forget_b2] at hr
  | succ n ih =>
    intro h a0 x1 dc ds hr
    rw [fn_X7_forget_b2] at hr
    intro H locs cells slots ls hH hS hl hc hs
    refine lv_iload_n X.1 X.2.1 dX7_forget_2 rfl (mz_at hl 1 rfl) ?_
    refine lv_bipush (v := 31) X.1 X.2.1 dX7_forget_3 (by decide) ?_
    refine mz_icmp_ge X 23 dX7_forget_5 (by decide) hr (fun hr => ?_) (fun hr => ?_)
    · refine mz_aload_n X dX7_forget_23 rfl (mz_at hl 0 rfl) ?_
      refine lv_iconst (v := 0) X.1 X.2.1 dX7_forget_24 (by decide) ?_
      refine mz_put X hH hS fp_RX7_66 dX7_forget_25 rfl rfl hr (fun h H locs hr hH hS => ?_)
      refine mz_aload_n X dX7_forget_28 rfl (mz_at hl 0 rfl) ?_
      refine lv_bipush (v := (-9)) X.1 X.2.1 dX7_forget_29 (by decide) ?_
      refine mz_put X hH hS fp_RX7_20 dX7_forget_31 rfl rfl hr (fun h H locs hr hH hS => ?_)
      refine mz_aload_n X dX7_forget_34 rfl (mz_at hl 0 rfl) ?_
      refine lv_bipush (v := (-9)) X.1 X.2.1 dX7_forget_35 (by decide) ?_
      refine mz_put X hH hS fp_RX7_24 dX7_forget_37 rfl rfl hr (fun h H locs hr hH hS => ?_)
      refine mz_aload_n X dX7_forget_40 rfl (mz_at hl 0 rfl) ?_
      refine lv_bipush (v := (-9)) X.1 X.2.1 dX7_forget_41 (by decide) ?_
      refine mz_put X hH hS fp_RX7_27 dX7_forget_43 rfl rfl hr (fun h H locs hr hH hS => ?_)
      exact mz_vret Y dX7_forget_46 hH hS hc hs hr
    · refine mz_aload_n X dX7_forget_8 rfl (mz_at hl 0 rfl) ?_
      refine mz_getR X hH fl_RX7_11 dX7_forget_9 hr (fun v1 hr => ?_)
      refine lv_iload_n X.1 X.2.1 dX7_forget_12 rfl (mz_at hl 1 rfl) ?_
      refine mz_aald (t := 11) X hH (by decide) rfl dX7_forget_13 hr (fun v2 hr => ?_)
      refine mz_kV0 X hH hS hl.1.1 [] [] hr (ct_X1_forget l g h v2) mb_RX7_69 rfl im_X1_forget rfl (Nat.le_of_ble_eq_true rfl) ⟨Nat.le_of_ble_eq_true rfl, Nat.le_of_ble_eq_true rfl⟩ hc hs dX7_forget_14 rfl (fun _ h H locs cells slots dc ds hr hH hS hc hs => ?_)
      obtain ⟨v3, hv3, hr⟩ := mz_op_some hr
      have hv3 := Option.some.inj hv3
      refine mz_iinc (k := 1) X [(1, false, .int v3), (0, false, va_rf a0)] v3 dX7_forget_17 hl rfl hv3 (by decide) rfl (fun ls hl => ?_)
      refine lv_goto (tgt := 2) X.1 X.2.1 dX7_forget_20 (by decide) ?_
      exact ih h a0 v3 _ _ hr H locs cells slots ls hH hS (mz_sub hl [1, 0] rfl) hc hs
def fn_X7_forget (h : mz_H) (a0 : (Option Nat)) : mz_Res Unit :=
  fn_X7_forget_b2 1001 h a0 0
set_option maxHeartbeats 4000000 in
set_option maxRecDepth 100000 in
theorem pf_X7_forget_b0 (r : Unit) (Y : mz_Y p g RX7 cX7_forget 2 none "forget" (mz_AF h0) s m args meth c) (h : mz_H) (a0 : (Option Nat)) (dc ds : Nat) (hr : fn_X7_forget h a0 = some (r, hf, dc, ds)) : mz_Go l g p e s m args below meth c 1 20 DC DS h0 none hf 2 0 [(0, false, va_rf a0)] [] h dc ds := by
  unfold fn_X7_forget at hr
  intro H locs cells slots ls hH hS hl hc hs
  have X := Y.1
  refine lv_iconst (v := 0) X.1 X.2.1 dX7_forget_0 (by decide) ?_
  refine mz_istore_n X [(1, false, .int 0), (0, false, va_rf a0)] dX7_forget_1 rfl hl (by decide) rfl (fun ls hl => ?_)
  exact pf_X7_forget_b2 r Y 1001 h a0 0 _ _ hr H locs cells slots ls hH hS (mz_sub hl [1, 0] rfl) hc hs
set_option maxRecDepth 100000 in
theorem ct_X7_forget (l : Launch) (g : mz_G) (h : mz_H) (a0 : (Option Nat)) (r : Unit) (hf : mz_H) (k n : Nat) (hr : fn_X7_forget h a0 = some (r, hf, k, n)) : mz_C l g yX7_forget cX7_forget 2 none 1 20 [va_rf a0] h none hf k n := by
  refine mz_met (as := [(false, va_rf a0)]) (plainFor_of_name (by decide)) (mz_c1 (mz_cat_rf _) mz_c0) (Nat.le_of_ble_eq_true rfl) ?_
  intro p e s m args below meth c Y
  exact pf_X7_forget_b0 r Y h a0 _ _ hr
theorem dX7_tell_0 : decode cX7_tell 0 = .ok (.aload_n 0, 1) := by decide +kernel
theorem dX7_tell_1 : decode cX7_tell 1 = .ok (.iload_n 1, 1) := by decide +kernel
theorem dX7_tell_2 : decode cX7_tell 2 = .ok (.putfield 66, 3) := by decide +kernel
theorem dX7_tell_5 : decode cX7_tell 5 = .ok (.aload_n 0, 1) := by decide +kernel
theorem dX7_tell_6 : decode cX7_tell 6 = .ok (.iload_n 2, 1) := by decide +kernel
theorem dX7_tell_7 : decode cX7_tell 7 = .ok (.putfield 20, 3) := by decide +kernel
theorem dX7_tell_10 : decode cX7_tell 10 = .ok (.aload_n 0, 1) := by decide +kernel
theorem dX7_tell_11 : decode cX7_tell 11 = .ok (.iload_n 3, 1) := by decide +kernel
theorem dX7_tell_12 : decode cX7_tell 12 = .ok (.putfield 24, 3) := by decide +kernel
theorem dX7_tell_15 : decode cX7_tell 15 = .ok (.aload_n 0, 1) := by decide +kernel
theorem dX7_tell_16 : decode cX7_tell 16 = .ok (.iload 4, 2) := by decide +kernel
theorem dX7_tell_18 : decode cX7_tell 18 = .ok (.putfield 27, 3) := by decide +kernel
theorem dX7_tell_21 : decode cX7_tell 21 = .ok (.return_, 1) := by decide +kernel
def fn_X7_tell (h : mz_H) (a0 : (Option Nat)) (x1 : Int32) (x2 : Int32) (x3 : Int32) (x4 : Int32) : mz_Res Unit :=
  mz_op (mz_pF h a0 6 3 (Value.int x1)) fun h =>
  mz_op (mz_pF h a0 6 4 (Value.int x2)) fun h =>
  mz_op (mz_pF h a0 6 5 (Value.int x3)) fun h =>
  mz_op (mz_pF h a0 6 6 (Value.int x4)) fun h =>
  mz_ret () h
set_option maxHeartbeats 4000000 in
set_option maxRecDepth 100000 in
theorem pf_X7_tell_b0 (r : Unit) (Y : mz_Y p g RX7 cX7_tell 5 none "tell" (mz_AF h0) s m args meth c) (h : mz_H) (a0 : (Option Nat)) (x1 : Int32) (x2 : Int32) (x3 : Int32) (x4 : Int32) (dc ds : Nat) (hr : fn_X7_tell h a0 x1 x2 x3 x4 = some (r, hf, dc, ds)) : mz_Go l g p e s m args below meth c 0 0 DC DS h0 none hf 5 0 [(0, false, va_rf a0), (1, false, .int x1), (2, false, .int x2), (3, false, .int x3), (4, false, .int x4)] [] h dc ds := by
  unfold fn_X7_tell at hr
  intro H locs cells slots ls hH hS hl hc hs
  have X := Y.1
  refine mz_aload_n X dX7_tell_0 rfl (mz_at hl 0 rfl) ?_
  refine lv_iload_n X.1 X.2.1 dX7_tell_1 rfl (mz_at hl 1 rfl) ?_
  refine mz_put X hH hS fp_RX7_66 dX7_tell_2 rfl rfl hr (fun h H locs hr hH hS => ?_)
  refine mz_aload_n X dX7_tell_5 rfl (mz_at hl 0 rfl) ?_
  refine lv_iload_n X.1 X.2.1 dX7_tell_6 rfl (mz_at hl 2 rfl) ?_
  refine mz_put X hH hS fp_RX7_20 dX7_tell_7 rfl rfl hr (fun h H locs hr hH hS => ?_)
  refine mz_aload_n X dX7_tell_10 rfl (mz_at hl 0 rfl) ?_
  refine lv_iload_n X.1 X.2.1 dX7_tell_11 rfl (mz_at hl 3 rfl) ?_
  refine mz_put X hH hS fp_RX7_24 dX7_tell_12 rfl rfl hr (fun h H locs hr hH hS => ?_)
  refine mz_aload_n X dX7_tell_15 rfl (mz_at hl 0 rfl) ?_
  refine lv_iload X.1 X.2.1 dX7_tell_16 (mz_at hl 4 rfl) ?_
  refine mz_put X hH hS fp_RX7_27 dX7_tell_18 rfl rfl hr (fun h H locs hr hH hS => ?_)
  exact mz_vret Y dX7_tell_21 hH hS hc hs hr
set_option maxRecDepth 100000 in
theorem ct_X7_tell (l : Launch) (g : mz_G) (h : mz_H) (a0 : (Option Nat)) (x1 : Int32) (x2 : Int32) (x3 : Int32) (x4 : Int32) (r : Unit) (hf : mz_H) (k n : Nat) (hr : fn_X7_tell h a0 x1 x2 x3 x4 = some (r, hf, k, n)) : mz_C l g yX7_tell cX7_tell 5 none 0 0 [va_rf a0, .int x1, .int x2, .int x3, .int x4] h none hf k n := by
  refine mz_met (as := [(false, va_rf a0), (false, .int x1), (false, .int x2), (false, .int x3), (false, .int x4)]) (plainFor_of_name (by decide)) (mz_c1 (mz_cat_rf _) (mz_c1 rfl (mz_c1 rfl (mz_c1 rfl (mz_c1 rfl mz_c0))))) (Nat.le_of_ble_eq_true rfl) ?_
  intro p e s m args below meth c Y
  exact pf_X7_tell_b0 r Y h a0 x1 x2 x3 x4 _ _ hr
theorem dX11_isName_0 : decode cX11_isName 0 = .ok (.iload_n 0, 1) := by decide +kernel
theorem dX11_isName_1 : decode cX11_isName 1 = .ok (.ifCond .lt 13, 3) := by decide +kernel
theorem dX11_isName_4 : decode cX11_isName 4 = .ok (.iload_n 0, 1) := by decide +kernel
theorem dX11_isName_5 : decode cX11_isName 5 = .ok (.bipush 31, 2) := by decide +kernel
theorem dX11_isName_7 : decode cX11_isName 7 = .ok (.if_icmp .ge 7, 3) := by decide +kernel
theorem dX11_isName_10 : decode cX11_isName 10 = .ok (.iconst 1, 1) := by decide +kernel
theorem dX11_isName_11 : decode cX11_isName 11 = .ok (.goto 4, 3) := by decide +kernel
theorem dX11_isName_14 : decode cX11_isName 14 = .ok (.iconst 0, 1) := by decide +kernel
theorem dX11_isName_15 : decode cX11_isName 15 = .ok (.ireturn, 1) := by decide +kernel
def fn_X11_isName (h : mz_H) (x0 : Int32) : mz_Res Int32 :=
  if x0 < 0 then
    mz_chk ((0 : Int32) &&& 1 == 0) (mz_ret 0 h)
  else
    if 31 ≤ x0 then
      mz_chk ((0 : Int32) &&& 1 == 0) (mz_ret 0 h)
    else
      mz_chk ((1 : Int32) &&& 1 == 1) (mz_ret 1 h)
set_option maxHeartbeats 4000000 in
set_option maxRecDepth 100000 in
theorem pf_X11_isName_b0 (r : Int32) (Y : mz_Y p g RX11 cX11_isName 1 (some .boolean) "isName" (mz_AF h0) s m args meth c) (h : mz_H) (x0 : Int32) (dc ds : Nat) (hr : fn_X11_isName h x0 = some (r, hf, dc, ds)) : mz_Go l g p e s m args below meth c 0 0 DC DS h0 (some (Value.int r)) hf 1 0 [(0, false, .int x0)] [] h dc ds := by
  unfold fn_X11_isName at hr
  intro H locs cells slots ls hH hS hl hc hs
  have X := Y.1
  refine lv_iload_n X.1 X.2.1 dX11_isName_0 rfl (mz_at hl 0 rfl) ?_
  refine mz_if_lt X 14 dX11_isName_1 (by decide) hr (fun hr => ?_) (fun hr => ?_)
  · refine lv_iconst (v := 0) X.1 X.2.1 dX11_isName_14 (by decide) ?_
    exact mz_zret Y dX11_isName_15 hH hS hc hs hr
  · refine lv_iload_n X.1 X.2.1 dX11_isName_4 rfl (mz_at hl 0 rfl) ?_
    refine lv_bipush (v := 31) X.1 X.2.1 dX11_isName_5 (by decide) ?_
    refine mz_icmp_ge X 14 dX11_isName_7 (by decide) hr (fun hr => ?_) (fun hr => ?_)
    · refine lv_iconst (v := 0) X.1 X.2.1 dX11_isName_14 (by decide) ?_
      exact mz_zret Y dX11_isName_15 hH hS hc hs hr
    · refine lv_iconst (v := 1) X.1 X.2.1 dX11_isName_10 (by decide) ?_
      refine lv_goto (tgt := 15) X.1 X.2.1 dX11_isName_11 (by decide) ?_
      exact mz_zret Y dX11_isName_15 hH hS hc hs hr
set_option maxRecDepth 100000 in
theorem ct_X11_isName (l : Launch) (g : mz_G) (h : mz_H) (x0 : Int32) (r : Int32) (hf : mz_H) (k n : Nat) (hr : fn_X11_isName h x0 = some (r, hf, k, n)) : mz_C l g yX11_isName cX11_isName 1 (some .boolean) 0 0 [.int x0] h (some (Value.int r)) hf k n := by
  refine mz_met (as := [(false, .int x0)]) (plainFor_of_name (by decide)) (mz_c1 rfl mz_c0) (Nat.le_of_ble_eq_true rfl) ?_
  intro p e s m args below meth c Y
  exact pf_X11_isName_b0 r Y h x0 _ _ hr
theorem dX7_takeMember_0 : decode cX7_takeMember 0 = .ok (.aload_n 2, 1) := by decide +kernel
theorem dX7_takeMember_1 : decode cX7_takeMember 1 = .ok (.bipush 6, 2) := by decide +kernel
theorem dX7_takeMember_3 : decode cX7_takeMember 3 = .ok (.invokevirtual 88, 3) := by decide +kernel
theorem dX7_takeMember_6 : decode cX7_takeMember 6 = .ok (.ifCond .eq 33, 3) := by decide +kernel
theorem dX7_takeMember_9 : decode cX7_takeMember 9 = .ok (.aload_n 0, 1) := by decide +kernel
theorem dX7_takeMember_10 : decode cX7_takeMember 10 = .ok (.getfield 66, 3) := by decide +kernel
theorem dX7_takeMember_13 : decode cX7_takeMember 13 = .ok (.ifCond .eq 14, 3) := by decide +kernel
theorem dX7_takeMember_16 : decode cX7_takeMember 16 = .ok (.aload_n 2, 1) := by decide +kernel
theorem dX7_takeMember_17 : decode cX7_takeMember 17 = .ok (.getfield 92, 3) := by decide +kernel
theorem dX7_takeMember_20 : decode cX7_takeMember 20 = .ok (.aload_n 0, 1) := by decide +kernel
theorem dX7_takeMember_21 : decode cX7_takeMember 21 = .ok (.getfield 20, 3) := by decide +kernel
theorem dX7_takeMember_24 : decode cX7_takeMember 24 = .ok (.if_icmp .ge 15, 3) := by decide +kernel
theorem dX7_takeMember_27 : decode cX7_takeMember 27 = .ok (.aload_n 0, 1) := by decide +kernel
theorem dX7_takeMember_28 : decode cX7_takeMember 28 = .ok (.iconst 1, 1) := by decide +kernel
theorem dX7_takeMember_29 : decode cX7_takeMember 29 = .ok (.aload_n 2, 1) := by decide +kernel
theorem dX7_takeMember_30 : decode cX7_takeMember 30 = .ok (.getfield 92, 3) := by decide +kernel
theorem dX7_takeMember_33 : decode cX7_takeMember 33 = .ok (.iload_n 1, 1) := by decide +kernel
theorem dX7_takeMember_34 : decode cX7_takeMember 34 = .ok (.bipush (-9), 2) := by decide +kernel
theorem dX7_takeMember_36 : decode cX7_takeMember 36 = .ok (.invokevirtual 95, 3) := by decide +kernel
theorem dX7_takeMember_39 : decode cX7_takeMember 39 = .ok (.aload_n 2, 1) := by decide +kernel
theorem dX7_takeMember_40 : decode cX7_takeMember 40 = .ok (.iconst 1, 1) := by decide +kernel
theorem dX7_takeMember_41 : decode cX7_takeMember 41 = .ok (.invokevirtual 88, 3) := by decide +kernel
theorem dX7_takeMember_44 : decode cX7_takeMember 44 = .ok (.ifCond .ne 35, 3) := by decide +kernel
theorem dX7_takeMember_47 : decode cX7_takeMember 47 = .ok (.aload_n 2, 1) := by decide +kernel
theorem dX7_takeMember_48 : decode cX7_takeMember 48 = .ok (.iconst 2, 1) := by decide +kernel
theorem dX7_takeMember_49 : decode cX7_takeMember 49 = .ok (.invokevirtual 88, 3) := by decide +kernel
theorem dX7_takeMember_52 : decode cX7_takeMember 52 = .ok (.ifCond .ne 27, 3) := by decide +kernel
theorem dX7_takeMember_55 : decode cX7_takeMember 55 = .ok (.aload_n 2, 1) := by decide +kernel
theorem dX7_takeMember_56 : decode cX7_takeMember 56 = .ok (.getfield 92, 3) := by decide +kernel
theorem dX7_takeMember_59 : decode cX7_takeMember 59 = .ok (.invokestatic 99, 3) := by decide +kernel
theorem dX7_takeMember_62 : decode cX7_takeMember 62 = .ok (.ifCond .eq 17, 3) := by decide +kernel
theorem dX7_takeMember_65 : decode cX7_takeMember 65 = .ok (.aload_n 0, 1) := by decide +kernel
theorem dX7_takeMember_66 : decode cX7_takeMember 66 = .ok (.getfield 11, 3) := by decide +kernel
theorem dX7_takeMember_69 : decode cX7_takeMember 69 = .ok (.aload_n 2, 1) := by decide +kernel
theorem dX7_takeMember_70 : decode cX7_takeMember 70 = .ok (.getfield 92, 3) := by decide +kernel
theorem dX7_takeMember_73 : decode cX7_takeMember 73 = .ok (.aaload, 1) := by decide +kernel
theorem dX7_takeMember_74 : decode cX7_takeMember 74 = .ok (.iload_n 1, 1) := by decide +kernel
theorem dX7_takeMember_75 : decode cX7_takeMember 75 = .ok (.aload_n 2, 1) := by decide +kernel
theorem dX7_takeMember_76 : decode cX7_takeMember 76 = .ok (.invokevirtual 102, 3) := by decide +kernel
theorem dX7_takeMember_79 : decode cX7_takeMember 79 = .ok (.return_, 1) := by decide +kernel
def fn_X7_takeMember_b39 (h : mz_H) (a0 : (Option Nat)) (x1 : Int32) (a2 : (Option Nat)) : mz_Res Unit :=
  mz_chk (mz_is h a2 2) <| mz_call (fn_X2_isMarked h a2 1) fun v1 h =>
  if v1 = 0 then
    mz_chk (mz_is h a2 2) <| mz_call (fn_X2_isMarked h a2 2) fun v2 h =>
    if v2 = 0 then
      mz_op (mz_fI h a2 2 1) fun v3 =>
      mz_call (fn_X11_isName h v3) fun v4 h =>
      if v4 = 0 then
        mz_ret () h
      else
        mz_op (mz_fR h a0 6 0) fun v5 =>
        mz_op (mz_fI h a2 2 1) fun v6 =>
        mz_op (mz_aR h v5 11 v6) fun v7 =>
        mz_chk (mz_is h v7 1) <| mz_call (fn_X1_take h v7 x1 a2) fun _ h =>
        mz_ret () h
    else
      mz_ret () h
  else
    mz_ret () h
set_option maxHeartbeats 4000000 in
set_option maxRecDepth 100000 in
theorem pf_X7_takeMember_b39 (r : Unit) (Y : mz_Y p g RX7 cX7_takeMember 3 none "takeMember" (mz_AF h0) s m args meth c) (h : mz_H) (a0 : (Option Nat)) (x1 : Int32) (a2 : (Option Nat)) (dc ds : Nat) (hr : fn_X7_takeMember_b39 h a0 x1 a2 = some (r, hf, dc, ds)) : mz_Go l g p e s m args below meth c 1 24 DC DS h0 none hf 3 39 [(0, false, va_rf a0), (1, false, .int x1), (2, false, va_rf a2)] [] h dc ds := by
  unfold fn_X7_takeMember_b39 at hr
  intro H locs cells slots ls hH hS hl hc hs
  have X := Y.1
  refine mz_aload_n X dX7_takeMember_39 rfl (mz_at hl 2 rfl) ?_
  refine lv_iconst (v := 1) X.1 X.2.1 dX7_takeMember_40 (by decide) ?_
  refine mz_kV Value.int X hH hS hl.1.1 [.int 1] [] hr (ct_X2_isMarked l g h a2 1) mb_RX7_88 rfl im_X2_isMarked rfl (Nat.le_of_ble_eq_true rfl) ⟨Nat.le_of_ble_eq_true rfl, Nat.le_of_ble_eq_true rfl⟩ hc hs dX7_takeMember_41 rfl (fun v1 h H locs cells slots dc ds hr hH hS hc hs => ?_)
  refine mz_if_ne X 79 dX7_takeMember_44 (by decide) hr (fun hr => ?_) (fun hr => ?_)
  · exact mz_vret Y dX7_takeMember_79 hH hS hc hs hr
  · refine mz_aload_n X dX7_takeMember_47 rfl (mz_at hl 2 rfl) ?_
    refine lv_iconst (v := 2) X.1 X.2.1 dX7_takeMember_48 (by decide) ?_
    refine mz_kV Value.int X hH hS hl.1.1 [.int 2] [] hr (ct_X2_isMarked l g h a2 2) mb_RX7_88 rfl im_X2_isMarked rfl (Nat.le_of_ble_eq_true rfl) ⟨Nat.le_of_ble_eq_true rfl, Nat.le_of_ble_eq_true rfl⟩ hc hs dX7_takeMember_49 rfl (fun v2 h H locs cells slots dc ds hr hH hS hc hs => ?_)
    refine mz_if_ne X 79 dX7_takeMember_52 (by decide) hr (fun hr => ?_) (fun hr => ?_)
    · exact mz_vret Y dX7_takeMember_79 hH hS hc hs hr
    · refine mz_aload_n X dX7_takeMember_55 rfl (mz_at hl 2 rfl) ?_
      refine mz_getI X hH fl_RX7_92 dX7_takeMember_56 hr (fun v3 hr => ?_)
      refine mz_kSN Value.int X hH hS hl.1.1 [.int v3] [] hr (ct_X11_isName l g h v3) mn_X11_isName X.2.2.2.2.2.1.2.2.2.2.2.1 im_X11_isName rfl (Nat.le_of_ble_eq_true rfl) ⟨Nat.le_of_ble_eq_true rfl, Nat.le_of_ble_eq_true rfl⟩ hc hs dX7_takeMember_59 rfl (fun v4 h H locs cells slots dc ds hr hH hS hc hs => ?_)
      refine mz_if_eq X 79 dX7_takeMember_62 (by decide) hr (fun hr => ?_) (fun hr => ?_)
      · exact mz_vret Y dX7_takeMember_79 hH hS hc hs hr
      · refine mz_aload_n X dX7_takeMember_65 rfl (mz_at hl 0 rfl) ?_
        refine mz_getR X hH fl_RX7_11 dX7_takeMember_66 hr (fun v5 hr => ?_)
        refine mz_aload_n X dX7_takeMember_69 rfl (mz_at hl 2 rfl) ?_
        refine mz_getI X hH fl_RX7_92 dX7_takeMember_70 hr (fun v6 hr => ?_)
        refine mz_aald (t := 11) X hH (by decide) rfl dX7_takeMember_73 hr (fun v7 hr => ?_)
        refine lv_iload_n X.1 X.2.1 dX7_takeMember_74 rfl (mz_at hl 1 rfl) ?_
        refine mz_aload_n X dX7_takeMember_75 rfl (mz_at hl 2 rfl) ?_
        refine mz_kV0 X hH hS hl.1.1 [.int x1, va_rf a2] [] hr (ct_X1_take l g h v7 x1 a2) mb_RX7_102 rfl im_X1_take rfl (Nat.le_of_ble_eq_true rfl) ⟨Nat.le_of_ble_eq_true rfl, Nat.le_of_ble_eq_true rfl⟩ hc hs dX7_takeMember_76 rfl (fun _ h H locs cells slots dc ds hr hH hS hc hs => ?_)
        exact mz_vret Y dX7_takeMember_79 hH hS hc hs hr
def fn_X7_takeMember_b27 (h : mz_H) (a0 : (Option Nat)) (x1 : Int32) (a2 : (Option Nat)) : mz_Res Unit :=
  mz_op (mz_fI h a2 2 1) fun v1 =>
  mz_chk (mz_is h a0 6) <| mz_call (fn_X7_tell h a0 1 v1 x1 (-9)) fun _ h =>
  fn_X7_takeMember_b39 h a0 x1 a2
set_option maxHeartbeats 4000000 in
set_option maxRecDepth 100000 in
theorem pf_X7_takeMember_b27 (r : Unit) (Y : mz_Y p g RX7 cX7_takeMember 3 none "takeMember" (mz_AF h0) s m args meth c) (h : mz_H) (a0 : (Option Nat)) (x1 : Int32) (a2 : (Option Nat)) (dc ds : Nat) (hr : fn_X7_takeMember_b27 h a0 x1 a2 = some (r, hf, dc, ds)) : mz_Go l g p e s m args below meth c 1 24 DC DS h0 none hf 3 27 [(0, false, va_rf a0), (1, false, .int x1), (2, false, va_rf a2)] [] h dc ds := by
  unfold fn_X7_takeMember_b27 at hr
  intro H locs cells slots ls hH hS hl hc hs
  have X := Y.1
  refine mz_aload_n X dX7_takeMember_27 rfl (mz_at hl 0 rfl) ?_
  refine lv_iconst (v := 1) X.1 X.2.1 dX7_takeMember_28 (by decide) ?_
  refine mz_aload_n X dX7_takeMember_29 rfl (mz_at hl 2 rfl) ?_
  refine mz_getI X hH fl_RX7_92 dX7_takeMember_30 hr (fun v1 hr => ?_)
  refine lv_iload_n X.1 X.2.1 dX7_takeMember_33 rfl (mz_at hl 1 rfl) ?_
  refine lv_bipush (v := (-9)) X.1 X.2.1 dX7_takeMember_34 (by decide) ?_
  refine mz_kV0 X hH hS hl.1.1 [.int 1, .int v1, .int x1, .int (-9)] [] hr (ct_X7_tell l g h a0 1 v1 x1 (-9)) mb_RX7_95 rfl im_X7_tell rfl (Nat.le_of_ble_eq_true rfl) ⟨Nat.le_of_ble_eq_true rfl, Nat.le_of_ble_eq_true rfl⟩ hc hs dX7_takeMember_36 rfl (fun _ h H locs cells slots dc ds hr hH hS hc hs => ?_)
  exact pf_X7_takeMember_b39 r Y h a0 x1 a2 _ _ hr H locs cells slots ls hH hS (mz_sub hl [0, 1, 2] rfl) hc hs
def fn_X7_takeMember (h : mz_H) (a0 : (Option Nat)) (x1 : Int32) (a2 : (Option Nat)) : mz_Res Unit :=
  mz_chk (mz_is h a2 2) <| mz_call (fn_X2_isMarked h a2 6) fun v1 h =>
  if v1 = 0 then
    fn_X7_takeMember_b39 h a0 x1 a2
  else
    mz_op (mz_fI h a0 6 3) fun v2 =>
    if v2 = 0 then
      fn_X7_takeMember_b27 h a0 x1 a2
    else
      mz_op (mz_fI h a2 2 1) fun v3 =>
      mz_op (mz_fI h a0 6 4) fun v4 =>
      if v4 ≤ v3 then
        fn_X7_takeMember_b39 h a0 x1 a2
      else
        fn_X7_takeMember_b27 h a0 x1 a2
set_option maxHeartbeats 4000000 in
set_option maxRecDepth 100000 in
theorem pf_X7_takeMember_b0 (r : Unit) (Y : mz_Y p g RX7 cX7_takeMember 3 none "takeMember" (mz_AF h0) s m args meth c) (h : mz_H) (a0 : (Option Nat)) (x1 : Int32) (a2 : (Option Nat)) (dc ds : Nat) (hr : fn_X7_takeMember h a0 x1 a2 = some (r, hf, dc, ds)) : mz_Go l g p e s m args below meth c 1 24 DC DS h0 none hf 3 0 [(0, false, va_rf a0), (1, false, .int x1), (2, false, va_rf a2)] [] h dc ds := by
  unfold fn_X7_takeMember at hr
  intro H locs cells slots ls hH hS hl hc hs
  have X := Y.1
  refine mz_aload_n X dX7_takeMember_0 rfl (mz_at hl 2 rfl) ?_
  refine lv_bipush (v := 6) X.1 X.2.1 dX7_takeMember_1 (by decide) ?_
  refine mz_kV Value.int X hH hS hl.1.1 [.int 6] [] hr (ct_X2_isMarked l g h a2 6) mb_RX7_88 rfl im_X2_isMarked rfl (Nat.le_of_ble_eq_true rfl) ⟨Nat.le_of_ble_eq_true rfl, Nat.le_of_ble_eq_true rfl⟩ hc hs dX7_takeMember_3 rfl (fun v1 h H locs cells slots dc ds hr hH hS hc hs => ?_)
  refine mz_if_eq X 39 dX7_takeMember_6 (by decide) hr (fun hr => ?_) (fun hr => ?_)
  · exact pf_X7_takeMember_b39 r Y h a0 x1 a2 _ _ hr H locs cells slots ls hH hS (mz_sub hl [0, 1, 2] rfl) hc hs
  · refine mz_aload_n X dX7_takeMember_9 rfl (mz_at hl 0 rfl) ?_
    refine mz_getI X hH fl_RX7_66 dX7_takeMember_10 hr (fun v2 hr => ?_)
    refine mz_if_eq X 27 dX7_takeMember_13 (by decide) hr (fun hr => ?_) (fun hr => ?_)
    · exact pf_X7_takeMember_b27 r Y h a0 x1 a2 _ _ hr H locs cells slots ls hH hS (mz_sub hl [0, 1, 2] rfl) hc hs
    · refine mz_aload_n X dX7_takeMember_16 rfl (mz_at hl 2 rfl) ?_
      refine mz_getI X hH fl_RX7_92 dX7_takeMember_17 hr (fun v3 hr => ?_)
      refine mz_aload_n X dX7_takeMember_20 rfl (mz_at hl 0 rfl) ?_
      refine mz_getI X hH fl_RX7_20 dX7_takeMember_21 hr (fun v4 hr => ?_)
      refine mz_icmp_ge X 39 dX7_takeMember_24 (by decide) hr (fun hr => ?_) (fun hr => ?_)
      · exact pf_X7_takeMember_b39 r Y h a0 x1 a2 _ _ hr H locs cells slots ls hH hS (mz_sub hl [0, 1, 2] rfl) hc hs
      · exact pf_X7_takeMember_b27 r Y h a0 x1 a2 _ _ hr H locs cells slots ls hH hS (mz_sub hl [0, 1, 2] rfl) hc hs
set_option maxRecDepth 100000 in
theorem ct_X7_takeMember (l : Launch) (g : mz_G) (h : mz_H) (a0 : (Option Nat)) (x1 : Int32) (a2 : (Option Nat)) (r : Unit) (hf : mz_H) (k n : Nat) (hr : fn_X7_takeMember h a0 x1 a2 = some (r, hf, k, n)) : mz_C l g yX7_takeMember cX7_takeMember 3 none 1 24 [va_rf a0, .int x1, va_rf a2] h none hf k n := by
  refine mz_met (as := [(false, va_rf a0), (false, .int x1), (false, va_rf a2)]) (plainFor_of_name (by decide)) (mz_c1 (mz_cat_rf _) (mz_c1 rfl (mz_c1 (mz_cat_rf _) mz_c0))) (Nat.le_of_ble_eq_true rfl) ?_
  intro p e s m args below meth c Y
  exact pf_X7_takeMember_b0 r Y h a0 x1 a2 _ _ hr
theorem dX7_takeMembers_0 : decode cX7_takeMembers 0 = .ok (.aload_n 2, 1) := by decide +kernel
theorem dX7_takeMembers_1 : decode cX7_takeMembers 1 = .ok (.ifnonnull 4, 3) := by decide +kernel
theorem dX7_takeMembers_4 : decode cX7_takeMembers 4 = .ok (.return_, 1) := by decide +kernel
theorem dX7_takeMembers_5 : decode cX7_takeMembers 5 = .ok (.iconst 0, 1) := by decide +kernel
theorem dX7_takeMembers_6 : decode cX7_takeMembers 6 = .ok (.istore_n 3, 1) := by decide +kernel
theorem dX7_takeMembers_7 : decode cX7_takeMembers 7 = .ok (.iload_n 3, 1) := by decide +kernel
theorem dX7_takeMembers_8 : decode cX7_takeMembers 8 = .ok (.iconst 3, 1) := by decide +kernel
theorem dX7_takeMembers_9 : decode cX7_takeMembers 9 = .ok (.if_icmp .ge 53, 3) := by decide +kernel
theorem dX7_takeMembers_12 : decode cX7_takeMembers 12 = .ok (.iconst 0, 1) := by decide +kernel
theorem dX7_takeMembers_13 : decode cX7_takeMembers 13 = .ok (.istore 4, 2) := by decide +kernel
theorem dX7_takeMembers_15 : decode cX7_takeMembers 15 = .ok (.iload 4, 2) := by decide +kernel
theorem dX7_takeMembers_17 : decode cX7_takeMembers 17 = .ok (.aload_n 2, 1) := by decide +kernel
theorem dX7_takeMembers_18 : decode cX7_takeMembers 18 = .ok (.getfield 70, 3) := by decide +kernel
theorem dX7_takeMembers_21 : decode cX7_takeMembers 21 = .ok (.if_icmp .ge 35, 3) := by decide +kernel
theorem dX7_takeMembers_24 : decode cX7_takeMembers 24 = .ok (.aload_n 2, 1) := by decide +kernel
theorem dX7_takeMembers_25 : decode cX7_takeMembers 25 = .ok (.getfield 75, 3) := by decide +kernel
theorem dX7_takeMembers_28 : decode cX7_takeMembers 28 = .ok (.iload 4, 2) := by decide +kernel
theorem dX7_takeMembers_30 : decode cX7_takeMembers 30 = .ok (.aaload, 1) := by decide +kernel
theorem dX7_takeMembers_31 : decode cX7_takeMembers 31 = .ok (.getfield 79, 3) := by decide +kernel
theorem dX7_takeMembers_34 : decode cX7_takeMembers 34 = .ok (.iload_n 3, 1) := by decide +kernel
theorem dX7_takeMembers_35 : decode cX7_takeMembers 35 = .ok (.if_icmp .ne 15, 3) := by decide +kernel
theorem dX7_takeMembers_38 : decode cX7_takeMembers 38 = .ok (.aload_n 0, 1) := by decide +kernel
theorem dX7_takeMembers_39 : decode cX7_takeMembers 39 = .ok (.iload_n 1, 1) := by decide +kernel
theorem dX7_takeMembers_40 : decode cX7_takeMembers 40 = .ok (.aload_n 2, 1) := by decide +kernel
theorem dX7_takeMembers_41 : decode cX7_takeMembers 41 = .ok (.getfield 75, 3) := by decide +kernel
theorem dX7_takeMembers_44 : decode cX7_takeMembers 44 = .ok (.iload 4, 2) := by decide +kernel
theorem dX7_takeMembers_46 : decode cX7_takeMembers 46 = .ok (.aaload, 1) := by decide +kernel
theorem dX7_takeMembers_47 : decode cX7_takeMembers 47 = .ok (.invokevirtual 84, 3) := by decide +kernel
theorem dX7_takeMembers_50 : decode cX7_takeMembers 50 = .ok (.iinc 4 1, 3) := by decide +kernel
theorem dX7_takeMembers_53 : decode cX7_takeMembers 53 = .ok (.goto (-38), 3) := by decide +kernel
theorem dX7_takeMembers_56 : decode cX7_takeMembers 56 = .ok (.iinc 3 1, 3) := by decide +kernel
theorem dX7_takeMembers_59 : decode cX7_takeMembers 59 = .ok (.goto (-52), 3) := by decide +kernel
theorem dX7_takeMembers_62 : decode cX7_takeMembers 62 = .ok (.return_, 1) := by decide +kernel
def fn_X7_takeMembers_b50 (rc7 : mz_H → (Option Nat) → Int32 → (Option Nat) → Int32 → mz_Res Unit) (rc15 : mz_H → (Option Nat) → Int32 → (Option Nat) → Int32 → Int32 → mz_Res Unit) (h : mz_H) (a0 : (Option Nat)) (x1 : Int32) (a2 : (Option Nat)) (x3 : Int32) (x4 : Int32) : mz_Res Unit :=
  mz_op (some (x4 + 1)) fun v1 =>
  rc15 h a0 x1 a2 x3 v1
set_option maxHeartbeats 4000000 in
set_option maxRecDepth 100000 in
theorem pf_X7_takeMembers_b50 (r : Unit) (Y : mz_Y p g RX7 cX7_takeMembers 5 none "takeMembers" (mz_AF h0) s m args meth c) {rc7 : mz_H → (Option Nat) → Int32 → (Option Nat) → Int32 → mz_Res Unit} (hrc7 : ∀ (h : mz_H) (a0 : (Option Nat)) (x1 : Int32) (a2 : (Option Nat)) (x3 : Int32) (dc ds : Nat), rc7 h a0 x1 a2 x3 = some (r, hf, dc, ds) → mz_Go l g p e s m args below meth c 2 46 DC DS h0 none hf 5 7 [(0, false, va_rf a0), (1, false, .int x1), (2, false, va_rf a2), (3, false, .int x3)] [] h dc ds) {rc15 : mz_H → (Option Nat) → Int32 → (Option Nat) → Int32 → Int32 → mz_Res Unit} (hrc15 : ∀ (h : mz_H) (a0 : (Option Nat)) (x1 : Int32) (a2 : (Option Nat)) (x3 : Int32) (x4 : Int32) (dc ds : Nat), rc15 h a0 x1 a2 x3 x4 = some (r, hf, dc, ds) → mz_Go l g p e s m args below meth c 2 46 DC DS h0 none hf 5 15 [(0, false, va_rf a0), (1, false, .int x1), (2, false, va_rf a2), (3, false, .int x3), (4, false, .int x4)] [] h dc ds) (h : mz_H) (a0 : (Option Nat)) (x1 : Int32) (a2 : (Option Nat)) (x3 : Int32) (x4 : Int32) (dc ds : Nat) (hr : fn_X7_takeMembers_b50 rc7 rc15 h a0 x1 a2 x3 x4 = some (r, hf, dc, ds)) : mz_Go l g p e s m args below meth c 2 46 DC DS h0 none hf 5 50 [(0, false, va_rf a0), (1, false, .int x1), (2, false, va_rf a2), (3, false, .int x3), (4, false, .int x4)] [] h dc ds := by
  unfold fn_X7_takeMembers_b50 at hr
  intro H locs cells slots ls hH hS hl hc hs
  have X := Y.1
  obtain ⟨v1, hv1, hr⟩ := mz_op_some hr
  have hv1 := Option.some.inj hv1
  refine mz_iinc (k := 4) X [(4, false, .int v1), (0, false, va_rf a0), (1, false, .int x1), (2, false, va_rf a2), (3, false, .int x3)] v1 dX7_takeMembers_50 hl rfl hv1 (by decide) rfl (fun ls hl => ?_)
  refine lv_goto (tgt := 15) X.1 X.2.1 dX7_takeMembers_53 (by decide) ?_
  exact hrc15 h a0 x1 a2 x3 v1 _ _ hr H locs cells slots ls hH hS (mz_sub hl [1, 2, 3, 4, 0] rfl) hc hs
def fn_X7_takeMembers_b15 (rc7 : mz_H → (Option Nat) → Int32 → (Option Nat) → Int32 → mz_Res Unit) : Nat → mz_H → (Option Nat) → Int32 → (Option Nat) → Int32 → Int32 → mz_Res Unit
  | 0, _, _, _, _, _, _ => none
  | n + 1, h, a0, x1, a2, x3, x4 =>
    mz_op (mz_fI h a2 8 8) fun v1 =>
    if v1 ≤ x4 then
      mz_op (some (x3 + 1)) fun v2 =>
      rc7 h a0 x1 a2 v2
    else
      mz_op (mz_fR h a2 8 7) fun v3 =>
      mz_op (mz_aR h v3 12 x4) fun v4 =>
      mz_op (mz_fI h v4 2 0) fun v5 =>
      if v5 = x3 then
        mz_op (mz_fR h a2 8 7) fun v6 =>
        mz_op (mz_aR h v6 12 x4) fun v7 =>
        mz_chk (mz_is h a0 6) <| mz_call (fn_X7_takeMember h a0 x1 v7) fun _ h =>
        fn_X7_takeMembers_b50 rc7 (fn_X7_takeMembers_b15 rc7 n) h a0 x1 a2 x3 x4
      else
        fn_X7_takeMembers_b50 rc7 (fn_X7_takeMembers_b15 rc7 n) h a0 x1 a2 x3 x4
set_option maxHeartbeats 4000000 in
set_option maxRecDepth 100000 in
theorem pf_X7_takeMembers_b15 (r : Unit) (Y : mz_Y p g RX7 cX7_takeMembers 5 none "takeMembers" (mz_AF h0) s m args meth c) {rc7 : mz_H → (Option Nat) → Int32 → (Option Nat) → Int32 → mz_Res Unit} (hrc7 : ∀ (h : mz_H) (a0 : (Option Nat)) (x1 : Int32) (a2 : (Option Nat)) (x3 : Int32) (dc ds : Nat), rc7 h a0 x1 a2 x3 = some (r, hf, dc, ds) → mz_Go l g p e s m args below meth c 2 46 DC DS h0 none hf 5 7 [(0, false, va_rf a0), (1, false, .int x1), (2, false, va_rf a2), (3, false, .int x3)] [] h dc ds) : ∀ (n : Nat) (h : mz_H) (a0 : (Option Nat)) (x1 : Int32) (a2 : (Option Nat)) (x3 : Int32) (x4 : Int32) (dc ds : Nat), fn_X7_takeMembers_b15 rc7 n h a0 x1 a2 x3 x4 = some (r, hf, dc, ds) → mz_Go l g p e s m args below meth c 2 46 DC DS h0 none hf 5 15 [(0, false, va_rf a0), (1, false, .int x1), (2, false, va_rf a2), (3, false, .int x3), (4, false, .int x4)] [] h dc ds := by
  have X := Y.1
  intro n
  induction n with
  | zero => intro h a0 x1 a2 x3 x4 dc ds hr; simp [fn_X7_takeMembers_b15] at hr
  | succ n ih =>
    intro h a0 x1 a2 x3 x4 dc ds hr
    rw [fn_X7_takeMembers_b15] at hr
    intro H locs cells slots ls hH hS hl hc hs
    refine lv_iload X.1 X.2.1 dX7_takeMembers_15 (mz_at hl 4 rfl) ?_
    refine mz_aload_n X dX7_takeMembers_17 rfl (mz_at hl 2 rfl) ?_
    refine mz_getI X hH fl_RX7_70 dX7_takeMembers_18 hr (fun v1 hr => ?_)
    refine mz_icmp_ge X 56 dX7_takeMembers_21 (by decide) hr (fun hr => ?_) (fun hr => ?_)
    · obtain ⟨v2, hv2, hr⟩ := mz_op_some hr
      have hv2 := Option.some.inj hv2
      refine mz_iinc (k := 3) X [(3, false, .int v2), (0, false, va_rf a0), (1, false, .int x1), (2, false, va_rf a2), (4, false, .int x4)] v2 dX7_takeMembers_56 hl rfl hv2 (by decide) rfl (fun ls hl => ?_)
      refine lv_goto (tgt := 7) X.1 X.2.1 dX7_takeMembers_59 (by decide) ?_
      exact hrc7 h a0 x1 a2 v2 _ _ hr H locs cells slots ls hH hS (mz_sub hl [1, 2, 3, 0] rfl) hc hs
    · refine mz_aload_n X dX7_takeMembers_24 rfl (mz_at hl 2 rfl) ?_
      refine mz_getR X hH fl_RX7_75 dX7_takeMembers_25 hr (fun v3 hr => ?_)
      refine lv_iload X.1 X.2.1 dX7_takeMembers_28 (mz_at hl 4 rfl) ?_
      refine mz_aald (t := 12) X hH (by decide) rfl dX7_takeMembers_30 hr (fun v4 hr => ?_)
      refine mz_getI X hH fl_RX7_79 dX7_takeMembers_31 hr (fun v5 hr => ?_)
      refine lv_iload_n X.1 X.2.1 dX7_takeMembers_34 rfl (mz_at hl 3 rfl) ?_
      refine mz_icmp_ne X 50 dX7_takeMembers_35 (by decide) hr (fun hr => ?_) (fun hr => ?_)
      · exact pf_X7_takeMembers_b50 r Y hrc7 ih h a0 x1 a2 x3 x4 _ _ hr H locs cells slots ls hH hS (mz_sub hl [0, 1, 2, 3, 4] rfl) hc hs
      · refine mz_aload_n X dX7_takeMembers_38 rfl (mz_at hl 0 rfl) ?_
        refine lv_iload_n X.1 X.2.1 dX7_takeMembers_39 rfl (mz_at hl 1 rfl) ?_
        refine mz_aload_n X dX7_takeMembers_40 rfl (mz_at hl 2 rfl) ?_
        refine mz_getR X hH fl_RX7_75 dX7_takeMembers_41 hr (fun v6 hr => ?_)
        refine lv_iload X.1 X.2.1 dX7_takeMembers_44 (mz_at hl 4 rfl) ?_
        refine mz_aald (t := 12) X hH (by decide) rfl dX7_takeMembers_46 hr (fun v7 hr => ?_)
        refine mz_kV0 X hH hS hl.1.1 [.int x1, va_rf v7] [] hr (ct_X7_takeMember l g h a0 x1 v7) mb_RX7_84 rfl im_X7_takeMember rfl (Nat.le_of_ble_eq_true rfl) ⟨Nat.le_of_ble_eq_true rfl, Nat.le_of_ble_eq_true rfl⟩ hc hs dX7_takeMembers_47 rfl (fun _ h H locs cells slots dc ds hr hH hS hc hs => ?_)
        exact pf_X7_takeMembers_b50 r Y hrc7 ih h a0 x1 a2 x3 x4 _ _ hr H locs cells slots ls hH hS (mz_sub hl [0, 1, 2, 3, 4] rfl) hc hs
def fn_X7_takeMembers_b7 : Nat → mz_H → (Option Nat) → Int32 → (Option Nat) → Int32 → mz_Res Unit
  | 0, _, _, _, _, _ => none
  | n + 1, h, a0, x1, a2, x3 =>
    if 3 ≤ x3 then
      mz_ret () h
    else
      fn_X7_takeMembers_b15 (fn_X7_takeMembers_b7 n) 1001 h a0 x1 a2 x3 0
set_option maxHeartbeats 4000000 in
set_option maxRecDepth 100000 in
theorem pf_X7_takeMembers_b7 (r : Unit) (Y : mz_Y p g RX7 cX7_takeMembers 5 none "takeMembers" (mz_AF h0) s m args meth c) : ∀ (n : Nat) (h : mz_H) (a0 : (Option Nat)) (x1 : Int32) (a2 : (Option Nat)) (x3 : Int32) (dc ds : Nat), fn_X7_takeMembers_b7 n h a0 x1 a2 x3 = some (r, hf, dc, ds) → mz_Go l g p e s m args below meth c 2 46 DC DS h0 none hf 5 7 [(0, false, va_rf a0), (1, false, .int x1), (2, false, va_rf a2), (3, false, .int x3)] [] h dc ds := by
  have X := Y.1
  intro n
  induction n with
  | zero => intro h a0 x1 a2 x3 dc ds hr; simp [fn_X7_takeMembers_b7] at hr
  | succ n ih =>
    intro h a0 x1 a2 x3 dc ds hr
    rw [fn_X7_takeMembers_b7] at hr
    intro H locs cells slots ls hH hS hl hc hs
    refine lv_iload_n X.1 X.2.1 dX7_takeMembers_7 rfl (mz_at hl 3 rfl) ?_
    refine lv_iconst (v := 3) X.1 X.2.1 dX7_takeMembers_8 (by decide) ?_
    refine mz_icmp_ge X 62 dX7_takeMembers_9 (by decide) hr (fun hr => ?_) (fun hr => ?_)
    · exact mz_vret Y dX7_takeMembers_62 hH hS hc hs hr
    · refine lv_iconst (v := 0) X.1 X.2.1 dX7_takeMembers_12 (by decide) ?_
      refine mz_istore X [(4, false, .int 0), (0, false, va_rf a0), (1, false, .int x1), (2, false, va_rf a2), (3, false, .int x3)] dX7_takeMembers_13 hl (by decide) rfl (fun ls hl => ?_)
      exact pf_X7_takeMembers_b15 r Y ih 1001 h a0 x1 a2 x3 0 _ _ hr H locs cells slots ls hH hS (mz_sub hl [1, 2, 3, 4, 0] rfl) hc hs
def fn_X7_takeMembers (h : mz_H) (a0 : (Option Nat)) (x1 : Int32) (a2 : (Option Nat)) : mz_Res Unit :=
  if a2 = none then
    mz_ret () h
  else
    fn_X7_takeMembers_b7 1001 h a0 x1 a2 0
set_option maxHeartbeats 4000000 in
set_option maxRecDepth 100000 in
theorem pf_X7_takeMembers_b0 (r : Unit) (Y : mz_Y p g RX7 cX7_takeMembers 5 none "takeMembers" (mz_AF h0) s m args meth c) (h : mz_H) (a0 : (Option Nat)) (x1 : Int32) (a2 : (Option Nat)) (dc ds : Nat) (hr : fn_X7_takeMembers h a0 x1 a2 = some (r, hf, dc, ds)) : mz_Go l g p e s m args below meth c 2 46 DC DS h0 none hf 5 0 [(0, false, va_rf a0), (1, false, .int x1), (2, false, va_rf a2)] [] h dc ds := by
  unfold fn_X7_takeMembers at hr
  intro H locs cells slots ls hH hS hl hc hs
  have X := Y.1
  refine mz_aload_n X dX7_takeMembers_0 rfl (mz_at hl 2 rfl) ?_
  refine mz_ifnonnull X 5 dX7_takeMembers_1 (by decide) hr (fun hr => ?_) (fun hr => ?_)
  · refine lv_iconst (v := 0) X.1 X.2.1 dX7_takeMembers_5 (by decide) ?_
    refine mz_istore_n X [(3, false, .int 0), (0, false, va_rf a0), (1, false, .int x1), (2, false, va_rf a2)] dX7_takeMembers_6 rfl hl (by decide) rfl (fun ls hl => ?_)
    exact pf_X7_takeMembers_b7 r Y 1001 h a0 x1 a2 0 _ _ hr H locs cells slots ls hH hS (mz_sub hl [1, 2, 3, 0] rfl) hc hs
  · exact mz_vret Y dX7_takeMembers_4 hH hS hc hs hr
set_option maxRecDepth 100000 in
theorem ct_X7_takeMembers (l : Launch) (g : mz_G) (h : mz_H) (a0 : (Option Nat)) (x1 : Int32) (a2 : (Option Nat)) (r : Unit) (hf : mz_H) (k n : Nat) (hr : fn_X7_takeMembers h a0 x1 a2 = some (r, hf, k, n)) : mz_C l g yX7_takeMembers cX7_takeMembers 5 none 2 46 [va_rf a0, .int x1, va_rf a2] h none hf k n := by
  refine mz_met (as := [(false, va_rf a0), (false, .int x1), (false, va_rf a2)]) (plainFor_of_name (by decide)) (mz_c1 (mz_cat_rf _) (mz_c1 rfl (mz_c1 (mz_cat_rf _) mz_c0))) (Nat.le_of_ble_eq_true rfl) ?_
  intro p e s m args below meth c Y
  exact pf_X7_takeMembers_b0 r Y h a0 x1 a2 _ _ hr
theorem dX7_gather_0 : decode cX7_gather 0 = .ok (.aload_n 0, 1) := by decide +kernel
theorem dX7_gather_1 : decode cX7_gather 1 = .ok (.iconst 0, 1) := by decide +kernel
theorem dX7_gather_2 : decode cX7_gather 2 = .ok (.putfield 33, 3) := by decide +kernel
theorem dX7_gather_5 : decode cX7_gather 5 = .ok (.iconst 0, 1) := by decide +kernel
theorem dX7_gather_6 : decode cX7_gather 6 = .ok (.istore_n 1, 1) := by decide +kernel
theorem dX7_gather_7 : decode cX7_gather 7 = .ok (.iload_n 1, 1) := by decide +kernel
theorem dX7_gather_8 : decode cX7_gather 8 = .ok (.bipush 31, 2) := by decide +kernel
theorem dX7_gather_10 : decode cX7_gather 10 = .ok (.if_icmp .ge 46, 3) := by decide +kernel
theorem dX7_gather_13 : decode cX7_gather 13 = .ok (.aload_n 0, 1) := by decide +kernel
theorem dX7_gather_14 : decode cX7_gather 14 = .ok (.getfield 11, 3) := by decide +kernel
theorem dX7_gather_17 : decode cX7_gather 17 = .ok (.iload_n 1, 1) := by decide +kernel
theorem dX7_gather_18 : decode cX7_gather 18 = .ok (.aaload, 1) := by decide +kernel
theorem dX7_gather_19 : decode cX7_gather 19 = .ok (.getfield 105, 3) := by decide +kernel
theorem dX7_gather_22 : decode cX7_gather 22 = .ok (.ifCond .le 28, 3) := by decide +kernel
theorem dX7_gather_25 : decode cX7_gather 25 = .ok (.aload_n 0, 1) := by decide +kernel
theorem dX7_gather_26 : decode cX7_gather 26 = .ok (.getfield 17, 3) := by decide +kernel
theorem dX7_gather_29 : decode cX7_gather 29 = .ok (.aload_n 0, 1) := by decide +kernel
theorem dX7_gather_30 : decode cX7_gather 30 = .ok (.getfield 33, 3) := by decide +kernel
theorem dX7_gather_33 : decode cX7_gather 33 = .ok (.aload_n 0, 1) := by decide +kernel
theorem dX7_gather_34 : decode cX7_gather 34 = .ok (.getfield 11, 3) := by decide +kernel
theorem dX7_gather_37 : decode cX7_gather 37 = .ok (.iload_n 1, 1) := by decide +kernel
theorem dX7_gather_38 : decode cX7_gather 38 = .ok (.aaload, 1) := by decide +kernel
theorem dX7_gather_39 : decode cX7_gather 39 = .ok (.aastore, 1) := by decide +kernel
theorem dX7_gather_40 : decode cX7_gather 40 = .ok (.aload_n 0, 1) := by decide +kernel
theorem dX7_gather_41 : decode cX7_gather 41 = .ok (.dup, 1) := by decide +kernel
theorem dX7_gather_42 : decode cX7_gather 42 = .ok (.getfield 33, 3) := by decide +kernel
theorem dX7_gather_45 : decode cX7_gather 45 = .ok (.iconst 1, 1) := by decide +kernel
theorem dX7_gather_46 : decode cX7_gather 46 = .ok (.iadd, 1) := by decide +kernel
theorem dX7_gather_47 : decode cX7_gather 47 = .ok (.putfield 33, 3) := by decide +kernel
theorem dX7_gather_50 : decode cX7_gather 50 = .ok (.iinc 1 1, 3) := by decide +kernel
theorem dX7_gather_53 : decode cX7_gather 53 = .ok (.goto (-46), 3) := by decide +kernel
theorem dX7_gather_56 : decode cX7_gather 56 = .ok (.return_, 1) := by decide +kernel
def fn_X7_gather_b50 (rc7 : mz_H → (Option Nat) → Int32 → mz_Res Unit) (h : mz_H) (a0 : (Option Nat)) (x1 : Int32) : mz_Res Unit :=
  mz_op (some (x1 + 1)) fun v1 =>
  rc7 h a0 v1
set_option maxHeartbeats 4000000 in
set_option maxRecDepth 100000 in
theorem pf_X7_gather_b50 (r : Unit) (Y : mz_Y p g RX7 cX7_gather 2 none "gather" (mz_AF h0) s m args meth c) {rc7 : mz_H → (Option Nat) → Int32 → mz_Res Unit} (hrc7 : ∀ (h : mz_H) (a0 : (Option Nat)) (x1 : Int32) (dc ds : Nat), rc7 h a0 x1 = some (r, hf, dc, ds) → mz_Go l g p e s m args below meth c 0 0 DC DS h0 none hf 2 7 [(0, false, va_rf a0), (1, false, .int x1)] [] h dc ds) (h : mz_H) (a0 : (Option Nat)) (x1 : Int32) (dc ds : Nat) (hr : fn_X7_gather_b50 rc7 h a0 x1 = some (r, hf, dc, ds)) : mz_Go l g p e s m args below meth c 0 0 DC DS h0 none hf 2 50 [(0, false, va_rf a0), (1, false, .int x1)] [] h dc ds := by
  unfold fn_X7_gather_b50 at hr
  intro H locs cells slots ls hH hS hl hc hs
  have X := Y.1
  obtain ⟨v1, hv1, hr⟩ := mz_op_some hr
  have hv1 := Option.some.inj hv1
  refine mz_iinc (k := 1) X [(1, false, .int v1), (0, false, va_rf a0)] v1 dX7_gather_50 hl rfl hv1 (by decide) rfl (fun ls hl => ?_)
  refine lv_goto (tgt := 7) X.1 X.2.1 dX7_gather_53 (by decide) ?_
  exact hrc7 h a0 v1 _ _ hr H locs cells slots ls hH hS (mz_sub hl [1, 0] rfl) hc hs
def fn_X7_gather_b7 : Nat → mz_H → (Option Nat) → Int32 → mz_Res Unit
  | 0, _, _, _ => none
  | n + 1, h, a0, x1 =>
    if 31 ≤ x1 then
      mz_ret () h
    else
      mz_op (mz_fR h a0 6 0) fun v1 =>
      mz_op (mz_aR h v1 11 x1) fun v2 =>
      mz_op (mz_fI h v2 1 6) fun v3 =>
      if v3 ≤ 0 then
        fn_X7_gather_b50 (fn_X7_gather_b7 n) h a0 x1
      else
        mz_op (mz_fR h a0 6 1) fun v4 =>
        mz_op (mz_fI h a0 6 2) fun v5 =>
        mz_op (mz_fR h a0 6 0) fun v6 =>
        mz_op (mz_aR h v6 11 x1) fun v7 =>
        mz_op (mz_sR h v4 11 v5 v7) fun h =>
        mz_op (mz_fI h a0 6 2) fun v8 =>
        mz_op (mz_pF h a0 6 2 (Value.int (v8 + 1))) fun h =>
        fn_X7_gather_b50 (fn_X7_gather_b7 n) h a0 x1
set_option maxHeartbeats 4000000 in
set_option maxRecDepth 100000 in
theorem pf_X7_gather_b7 (r : Unit) (Y : mz_Y p g RX7 cX7_gather 2 none "gather" (mz_AF h0) s m args meth c) : ∀ (n : Nat) (h : mz_H) (a0 : (Option Nat)) (x1 : Int32) (dc ds : Nat), fn_X7_gather_b7 n h a0 x1 = some (r, hf, dc, ds) → mz_Go l g p e s m args below meth c 0 0 DC DS h0 none hf 2 7 [(0, false, va_rf a0), (1, false, .int x1)] [] h dc ds := by
  have X := Y.1
  intro n
  induction n with
  | zero => intro h a0 x1 dc ds hr; simp [fn_X7_gather_b7] at hr
  | succ n ih =>
    intro h a0 x1 dc ds hr
    rw [fn_X7_gather_b7] at hr
    intro H locs cells slots ls hH hS hl hc hs
    refine lv_iload_n X.1 X.2.1 dX7_gather_7 rfl (mz_at hl 1 rfl) ?_
    refine lv_bipush (v := 31) X.1 X.2.1 dX7_gather_8 (by decide) ?_
    refine mz_icmp_ge X 56 dX7_gather_10 (by decide) hr (fun hr => ?_) (fun hr => ?_)
    · exact mz_vret Y dX7_gather_56 hH hS hc hs hr
    · refine mz_aload_n X dX7_gather_13 rfl (mz_at hl 0 rfl) ?_
      refine mz_getR X hH fl_RX7_11 dX7_gather_14 hr (fun v1 hr => ?_)
      refine lv_iload_n X.1 X.2.1 dX7_gather_17 rfl (mz_at hl 1 rfl) ?_
      refine mz_aald (t := 11) X hH (by decide) rfl dX7_gather_18 hr (fun v2 hr => ?_)
      refine mz_getI X hH fl_RX7_105 dX7_gather_19 hr (fun v3 hr => ?_)
      refine mz_if_le X 50 dX7_gather_22 (by decide) hr (fun hr => ?_) (fun hr => ?_)
      · exact pf_X7_gather_b50 r Y ih h a0 x1 _ _ hr H locs cells slots ls hH hS (mz_sub hl [0, 1] rfl) hc hs
      · refine mz_aload_n X dX7_gather_25 rfl (mz_at hl 0 rfl) ?_
        refine mz_getR X hH fl_RX7_17 dX7_gather_26 hr (fun v4 hr => ?_)
        refine mz_aload_n X dX7_gather_29 rfl (mz_at hl 0 rfl) ?_
        refine mz_getI X hH fl_RX7_33 dX7_gather_30 hr (fun v5 hr => ?_)
        refine mz_aload_n X dX7_gather_33 rfl (mz_at hl 0 rfl) ?_
        refine mz_getR X hH fl_RX7_11 dX7_gather_34 hr (fun v6 hr => ?_)
        refine lv_iload_n X.1 X.2.1 dX7_gather_37 rfl (mz_at hl 1 rfl) ?_
        refine mz_aald (t := 11) X hH (by decide) rfl dX7_gather_38 hr (fun v7 hr => ?_)
        refine mz_aast (t := 11) X hH hS (by decide) rfl rfl dX7_gather_39 hr (fun h H locs hr hH hS => ?_)
        refine mz_aload_n X dX7_gather_40 rfl (mz_at hl 0 rfl) ?_
        refine mz_dupR X dX7_gather_41 ?_
        refine mz_getI X hH fl_RX7_33 dX7_gather_42 hr (fun v8 hr => ?_)
        refine lv_iconst (v := 1) X.1 X.2.1 dX7_gather_45 (by decide) ?_
        refine lv_iadd X.1 X.2.1 dX7_gather_46 ?_
        refine mz_put X hH hS fp_RX7_33 dX7_gather_47 rfl rfl hr (fun h H locs hr hH hS => ?_)
        exact pf_X7_gather_b50 r Y ih h a0 x1 _ _ hr H locs cells slots ls hH hS (mz_sub hl [0, 1] rfl) hc hs
def fn_X7_gather (h : mz_H) (a0 : (Option Nat)) : mz_Res Unit :=
  mz_op (mz_pF h a0 6 2 (Value.int 0)) fun h =>
  fn_X7_gather_b7 1001 h a0 0
set_option maxHeartbeats 4000000 in
set_option maxRecDepth 100000 in
theorem pf_X7_gather_b0 (r : Unit) (Y : mz_Y p g RX7 cX7_gather 2 none "gather" (mz_AF h0) s m args meth c) (h : mz_H) (a0 : (Option Nat)) (dc ds : Nat) (hr : fn_X7_gather h a0 = some (r, hf, dc, ds)) : mz_Go l g p e s m args below meth c 0 0 DC DS h0 none hf 2 0 [(0, false, va_rf a0)] [] h dc ds := by
  unfold fn_X7_gather at hr
  intro H locs cells slots ls hH hS hl hc hs
  have X := Y.1
  refine mz_aload_n X dX7_gather_0 rfl (mz_at hl 0 rfl) ?_
  refine lv_iconst (v := 0) X.1 X.2.1 dX7_gather_1 (by decide) ?_
  refine mz_put X hH hS fp_RX7_33 dX7_gather_2 rfl rfl hr (fun h H locs hr hH hS => ?_)
  refine lv_iconst (v := 0) X.1 X.2.1 dX7_gather_5 (by decide) ?_
  refine mz_istore_n X [(1, false, .int 0), (0, false, va_rf a0)] dX7_gather_6 rfl hl (by decide) rfl (fun ls hl => ?_)
  exact pf_X7_gather_b7 r Y 1001 h a0 0 _ _ hr H locs cells slots ls hH hS (mz_sub hl [1, 0] rfl) hc hs
set_option maxRecDepth 100000 in
theorem ct_X7_gather (l : Launch) (g : mz_G) (h : mz_H) (a0 : (Option Nat)) (r : Unit) (hf : mz_H) (k n : Nat) (hr : fn_X7_gather h a0 = some (r, hf, k, n)) : mz_C l g yX7_gather cX7_gather 2 none 0 0 [va_rf a0] h none hf k n := by
  refine mz_met (as := [(false, va_rf a0)]) (plainFor_of_name (by decide)) (mz_c1 (mz_cat_rf _) mz_c0) (Nat.le_of_ble_eq_true rfl) ?_
  intro p e s m args below meth c Y
  exact pf_X7_gather_b0 r Y h a0 _ _ hr
theorem dX7_lookForClash_0 : decode cX7_lookForClash 0 = .ok (.iconst 0, 1) := by decide +kernel
theorem dX7_lookForClash_1 : decode cX7_lookForClash 1 = .ok (.istore_n 1, 1) := by decide +kernel
theorem dX7_lookForClash_2 : decode cX7_lookForClash 2 = .ok (.iload_n 1, 1) := by decide +kernel
theorem dX7_lookForClash_3 : decode cX7_lookForClash 3 = .ok (.aload_n 0, 1) := by decide +kernel
theorem dX7_lookForClash_4 : decode cX7_lookForClash 4 = .ok (.getfield 33, 3) := by decide +kernel
theorem dX7_lookForClash_7 : decode cX7_lookForClash 7 = .ok (.if_icmp .ge 62, 3) := by decide +kernel
theorem dX7_lookForClash_10 : decode cX7_lookForClash 10 = .ok (.aload_n 0, 1) := by decide +kernel
theorem dX7_lookForClash_11 : decode cX7_lookForClash 11 = .ok (.getfield 66, 3) := by decide +kernel
theorem dX7_lookForClash_14 : decode cX7_lookForClash 14 = .ok (.ifCond .ne 55, 3) := by decide +kernel
theorem dX7_lookForClash_17 : decode cX7_lookForClash 17 = .ok (.aload_n 0, 1) := by decide +kernel
theorem dX7_lookForClash_18 : decode cX7_lookForClash 18 = .ok (.getfield 17, 3) := by decide +kernel
theorem dX7_lookForClash_21 : decode cX7_lookForClash 21 = .ok (.iload_n 1, 1) := by decide +kernel
theorem dX7_lookForClash_22 : decode cX7_lookForClash 22 = .ok (.aaload, 1) := by decide +kernel
theorem dX7_lookForClash_23 : decode cX7_lookForClash 23 = .ok (.getfield 108, 3) := by decide +kernel
theorem dX7_lookForClash_26 : decode cX7_lookForClash 26 = .ok (.bipush (-9), 2) := by decide +kernel
theorem dX7_lookForClash_28 : decode cX7_lookForClash 28 = .ok (.if_icmp .eq 35, 3) := by decide +kernel
theorem dX7_lookForClash_31 : decode cX7_lookForClash 31 = .ok (.aload_n 0, 1) := by decide +kernel
theorem dX7_lookForClash_32 : decode cX7_lookForClash 32 = .ok (.iconst 2, 1) := by decide +kernel
theorem dX7_lookForClash_33 : decode cX7_lookForClash 33 = .ok (.aload_n 0, 1) := by decide +kernel
theorem dX7_lookForClash_34 : decode cX7_lookForClash 34 = .ok (.getfield 17, 3) := by decide +kernel
theorem dX7_lookForClash_37 : decode cX7_lookForClash 37 = .ok (.iload_n 1, 1) := by decide +kernel
theorem dX7_lookForClash_38 : decode cX7_lookForClash 38 = .ok (.aaload, 1) := by decide +kernel
theorem dX7_lookForClash_39 : decode cX7_lookForClash 39 = .ok (.getfield 111, 3) := by decide +kernel
theorem dX7_lookForClash_42 : decode cX7_lookForClash 42 = .ok (.aload_n 0, 1) := by decide +kernel
theorem dX7_lookForClash_43 : decode cX7_lookForClash 43 = .ok (.getfield 17, 3) := by decide +kernel
theorem dX7_lookForClash_46 : decode cX7_lookForClash 46 = .ok (.iload_n 1, 1) := by decide +kernel
theorem dX7_lookForClash_47 : decode cX7_lookForClash 47 = .ok (.aaload, 1) := by decide +kernel
theorem dX7_lookForClash_48 : decode cX7_lookForClash 48 = .ok (.getfield 112, 3) := by decide +kernel
theorem dX7_lookForClash_51 : decode cX7_lookForClash 51 = .ok (.aload_n 0, 1) := by decide +kernel
theorem dX7_lookForClash_52 : decode cX7_lookForClash 52 = .ok (.getfield 17, 3) := by decide +kernel
theorem dX7_lookForClash_55 : decode cX7_lookForClash 55 = .ok (.iload_n 1, 1) := by decide +kernel
theorem dX7_lookForClash_56 : decode cX7_lookForClash 56 = .ok (.aaload, 1) := by decide +kernel
theorem dX7_lookForClash_57 : decode cX7_lookForClash 57 = .ok (.getfield 108, 3) := by decide +kernel
theorem dX7_lookForClash_60 : decode cX7_lookForClash 60 = .ok (.invokevirtual 95, 3) := by decide +kernel
theorem dX7_lookForClash_63 : decode cX7_lookForClash 63 = .ok (.iinc 1 1, 3) := by decide +kernel
theorem dX7_lookForClash_66 : decode cX7_lookForClash 66 = .ok (.goto (-64), 3) := by decide +kernel
theorem dX7_lookForClash_69 : decode cX7_lookForClash 69 = .ok (.return_, 1) := by decide +kernel
def fn_X7_lookForClash_b63 (rc2 : mz_H → (Option Nat) → Int32 → mz_Res Unit) (h : mz_H) (a0 : (Option Nat)) (x1 : Int32) : mz_Res Unit :=
  mz_op (some (x1 + 1)) fun v1 =>
  rc2 h a0 v1
set_option maxHeartbeats 4000000 in
set_option maxRecDepth 100000 in
theorem pf_X7_lookForClash_b63 (r : Unit) (Y : mz_Y p g RX7 cX7_lookForClash 2 none "lookForClash" (mz_AF h0) s m args meth c) {rc2 : mz_H → (Option Nat) → Int32 → mz_Res Unit} (hrc2 : ∀ (h : mz_H) (a0 : (Option Nat)) (x1 : Int32) (dc ds : Nat), rc2 h a0 x1 = some (r, hf, dc, ds) → mz_Go l g p e s m args below meth c 1 24 DC DS h0 none hf 2 2 [(0, false, va_rf a0), (1, false, .int x1)] [] h dc ds) (h : mz_H) (a0 : (Option Nat)) (x1 : Int32) (dc ds : Nat) (hr : fn_X7_lookForClash_b63 rc2 h a0 x1 = some (r, hf, dc, ds)) : mz_Go l g p e s m args below meth c 1 24 DC DS h0 none hf 2 63 [(0, false, va_rf a0), (1, false, .int x1)] [] h dc ds := by
  unfold fn_X7_lookForClash_b63 at hr
  intro H locs cells slots ls hH hS hl hc hs
  have X := Y.1
  obtain ⟨v1, hv1, hr⟩ := mz_op_some hr
  have hv1 := Option.some.inj hv1
  refine mz_iinc (k := 1) X [(1, false, .int v1), (0, false, va_rf a0)] v1 dX7_lookForClash_63 hl rfl hv1 (by decide) rfl (fun ls hl => ?_)
  refine lv_goto (tgt := 2) X.1 X.2.1 dX7_lookForClash_66 (by decide) ?_
  exact hrc2 h a0 v1 _ _ hr H locs cells slots ls hH hS (mz_sub hl [1, 0] rfl) hc hs
def fn_X7_lookForClash_b2 : Nat → mz_H → (Option Nat) → Int32 → mz_Res Unit
  | 0, _, _, _ => none
  | n + 1, h, a0, x1 =>
    mz_op (mz_fI h a0 6 2) fun v1 =>
    if v1 ≤ x1 then
      mz_ret () h
    else
      mz_op (mz_fI h a0 6 3) fun v2 =>
      if v2 = 0 then
        mz_op (mz_fR h a0 6 1) fun v3 =>
        mz_op (mz_aR h v3 11 x1) fun v4 =>
        mz_op (mz_fI h v4 1 7) fun v5 =>
        if v5 = (-9) then
          fn_X7_lookForClash_b63 (fn_X7_lookForClash_b2 n) h a0 x1
        else
          mz_op (mz_fR h a0 6 1) fun v6 =>
          mz_op (mz_aR h v6 11 x1) fun v7 =>
          mz_op (mz_fI h v7 1 0) fun v8 =>
          mz_op (mz_fR h a0 6 1) fun v9 =>
          mz_op (mz_aR h v9 11 x1) fun v10 =>
          mz_op (mz_fI h v10 1 1) fun v11 =>
          mz_op (mz_fR h a0 6 1) fun v12 =>
          mz_op (mz_aR h v12 11 x1) fun v13 =>
          mz_op (mz_fI h v13 1 7) fun v14 =>
          mz_chk (mz_is h a0 6) <| mz_call (fn_X7_tell h a0 2 v8 v11 v14) fun _ h =>
          fn_X7_lookForClash_b63 (fn_X7_lookForClash_b2 n) h a0 x1
      else
        mz_ret () h
set_option maxHeartbeats 4000000 in
set_option maxRecDepth 100000 in
theorem pf_X7_lookForClash_b2 (r : Unit) (Y : mz_Y p g RX7 cX7_lookForClash 2 none "lookForClash" (mz_AF h0) s m args meth c) : ∀ (n : Nat) (h : mz_H) (a0 : (Option Nat)) (x1 : Int32) (dc ds : Nat), fn_X7_lookForClash_b2 n h a0 x1 = some (r, hf, dc, ds) → mz_Go l g p e s m args below meth c 1 24 DC DS h0 none hf 2 2 [(0, false, va_rf a0), (1, false, .int x1)] [] h dc ds := by
  have X := Y.1
  intro n
  induction n with
  | zero => intro h a0 x1 dc ds hr; simp [fn_X7_lookForClash_b2] at hr
  | succ n ih =>
    intro h a0 x1 dc ds hr
    rw [fn_X7_lookForClash_b2] at hr
    intro H locs cells slots ls hH hS hl hc hs
    refine lv_iload_n X.1 X.2.1 dX7_lookForClash_2 rfl (mz_at hl 1 rfl) ?_
    refine mz_aload_n X dX7_lookForClash_3 rfl (mz_at hl 0 rfl) ?_
    refine mz_getI X hH fl_RX7_33 dX7_lookForClash_4 hr (fun v1 hr => ?_)
    refine mz_icmp_ge X 69 dX7_lookForClash_7 (by decide) hr (fun hr => ?_) (fun hr => ?_)
    · exact mz_vret Y dX7_lookForClash_69 hH hS hc hs hr
    · refine mz_aload_n X dX7_lookForClash_10 rfl (mz_at hl 0 rfl) ?_
      refine mz_getI X hH fl_RX7_66 dX7_lookForClash_11 hr (fun v2 hr => ?_)
      refine mz_if_ne X 69 dX7_lookForClash_14 (by decide) hr (fun hr => ?_) (fun hr => ?_)
      · exact mz_vret Y dX7_lookForClash_69 hH hS hc hs hr
      · refine mz_aload_n X dX7_lookForClash_17 rfl (mz_at hl 0 rfl) ?_
        refine mz_getR X hH fl_RX7_17 dX7_lookForClash_18 hr (fun v3 hr => ?_)
        refine lv_iload_n X.1 X.2.1 dX7_lookForClash_21 rfl (mz_at hl 1 rfl) ?_
        refine mz_aald (t := 11) X hH (by decide) rfl dX7_lookForClash_22 hr (fun v4 hr => ?_)
        refine mz_getI X hH fl_RX7_108 dX7_lookForClash_23 hr (fun v5 hr => ?_)
        refine lv_bipush (v := (-9)) X.1 X.2.1 dX7_lookForClash_26 (by decide) ?_
        refine mz_icmp_eq X 63 dX7_lookForClash_28 (by decide) hr (fun hr => ?_) (fun hr => ?_)
        · exact pf_X7_lookForClash_b63 r Y ih h a0 x1 _ _ hr H locs cells slots ls hH hS (mz_sub hl [0, 1] rfl) hc hs
        · refine mz_aload_n X dX7_lookForClash_31 rfl (mz_at hl 0 rfl) ?_
          refine lv_iconst (v := 2) X.1 X.2.1 dX7_lookForClash_32 (by decide) ?_
          refine mz_aload_n X dX7_lookForClash_33 rfl (mz_at hl 0 rfl) ?_
          refine mz_getR X hH fl_RX7_17 dX7_lookForClash_34 hr (fun v6 hr => ?_)
          refine lv_iload_n X.1 X.2.1 dX7_lookForClash_37 rfl (mz_at hl 1 rfl) ?_
          refine mz_aald (t := 11) X hH (by decide) rfl dX7_lookForClash_38 hr (fun v7 hr => ?_)
          refine mz_getI X hH fl_RX7_111 dX7_lookForClash_39 hr (fun v8 hr => ?_)
          refine mz_aload_n X dX7_lookForClash_42 rfl (mz_at hl 0 rfl) ?_
          refine mz_getR X hH fl_RX7_17 dX7_lookForClash_43 hr (fun v9 hr => ?_)
          refine lv_iload_n X.1 X.2.1 dX7_lookForClash_46 rfl (mz_at hl 1 rfl) ?_
          refine mz_aald (t := 11) X hH (by decide) rfl dX7_lookForClash_47 hr (fun v10 hr => ?_)
          refine mz_getI X hH fl_RX7_112 dX7_lookForClash_48 hr (fun v11 hr => ?_)
          refine mz_aload_n X dX7_lookForClash_51 rfl (mz_at hl 0 rfl) ?_
          refine mz_getR X hH fl_RX7_17 dX7_lookForClash_52 hr (fun v12 hr => ?_)
          refine lv_iload_n X.1 X.2.1 dX7_lookForClash_55 rfl (mz_at hl 1 rfl) ?_
          refine mz_aald (t := 11) X hH (by decide) rfl dX7_lookForClash_56 hr (fun v13 hr => ?_)
          refine mz_getI X hH fl_RX7_108 dX7_lookForClash_57 hr (fun v14 hr => ?_)
          refine mz_kV0 X hH hS hl.1.1 [.int 2, .int v8, .int v11, .int v14] [] hr (ct_X7_tell l g h a0 2 v8 v11 v14) mb_RX7_95 rfl im_X7_tell rfl (Nat.le_of_ble_eq_true rfl) ⟨Nat.le_of_ble_eq_true rfl, Nat.le_of_ble_eq_true rfl⟩ hc hs dX7_lookForClash_60 rfl (fun _ h H locs cells slots dc ds hr hH hS hc hs => ?_)
          exact pf_X7_lookForClash_b63 r Y ih h a0 x1 _ _ hr H locs cells slots ls hH hS (mz_sub hl [0, 1] rfl) hc hs
def fn_X7_lookForClash (h : mz_H) (a0 : (Option Nat)) : mz_Res Unit :=
  fn_X7_lookForClash_b2 1001 h a0 0
set_option maxHeartbeats 4000000 in
set_option maxRecDepth 100000 in
theorem pf_X7_lookForClash_b0 (r : Unit) (Y : mz_Y p g RX7 cX7_lookForClash 2 none "lookForClash" (mz_AF h0) s m args meth c) (h : mz_H) (a0 : (Option Nat)) (dc ds : Nat) (hr : fn_X7_lookForClash h a0 = some (r, hf, dc, ds)) : mz_Go l g p e s m args below meth c 1 24 DC DS h0 none hf 2 0 [(0, false, va_rf a0)] [] h dc ds := by
  unfold fn_X7_lookForClash at hr
  intro H locs cells slots ls hH hS hl hc hs
  have X := Y.1
  refine lv_iconst (v := 0) X.1 X.2.1 dX7_lookForClash_0 (by decide) ?_
  refine mz_istore_n X [(1, false, .int 0), (0, false, va_rf a0)] dX7_lookForClash_1 rfl hl (by decide) rfl (fun ls hl => ?_)
  exact pf_X7_lookForClash_b2 r Y 1001 h a0 0 _ _ hr H locs cells slots ls hH hS (mz_sub hl [1, 0] rfl) hc hs
set_option maxRecDepth 100000 in
theorem ct_X7_lookForClash (l : Launch) (g : mz_G) (h : mz_H) (a0 : (Option Nat)) (r : Unit) (hf : mz_H) (k n : Nat) (hr : fn_X7_lookForClash h a0 = some (r, hf, k, n)) : mz_C l g yX7_lookForClash cX7_lookForClash 2 none 1 24 [va_rf a0] h none hf k n := by
  refine mz_met (as := [(false, va_rf a0)]) (plainFor_of_name (by decide)) (mz_c1 (mz_cat_rf _) mz_c0) (Nat.le_of_ble_eq_true rfl) ?_
  intro p e s m args below meth c Y
  exact pf_X7_lookForClash_b0 r Y h a0 _ _ hr
theorem dX7_lookForSecondKey_0 : decode cX7_lookForSecondKey 0 = .ok (.iconst 0, 1) := by decide +kernel
theorem dX7_lookForSecondKey_1 : decode cX7_lookForSecondKey 1 = .ok (.istore_n 1, 1) := by decide +kernel
theorem dX7_lookForSecondKey_2 : decode cX7_lookForSecondKey 2 = .ok (.iconst 0, 1) := by decide +kernel
theorem dX7_lookForSecondKey_3 : decode cX7_lookForSecondKey 3 = .ok (.istore_n 2, 1) := by decide +kernel
theorem dX7_lookForSecondKey_4 : decode cX7_lookForSecondKey 4 = .ok (.iload_n 2, 1) := by decide +kernel
theorem dX7_lookForSecondKey_5 : decode cX7_lookForSecondKey 5 = .ok (.aload_n 0, 1) := by decide +kernel
theorem dX7_lookForSecondKey_6 : decode cX7_lookForSecondKey 6 = .ok (.getfield 33, 3) := by decide +kernel
theorem dX7_lookForSecondKey_9 : decode cX7_lookForSecondKey 9 = .ok (.if_icmp .ge 63, 3) := by decide +kernel
theorem dX7_lookForSecondKey_12 : decode cX7_lookForSecondKey 12 = .ok (.aload_n 0, 1) := by decide +kernel
theorem dX7_lookForSecondKey_13 : decode cX7_lookForSecondKey 13 = .ok (.getfield 66, 3) := by decide +kernel
theorem dX7_lookForSecondKey_16 : decode cX7_lookForSecondKey 16 = .ok (.ifCond .ne 56, 3) := by decide +kernel
theorem dX7_lookForSecondKey_19 : decode cX7_lookForSecondKey 19 = .ok (.aload_n 0, 1) := by decide +kernel
theorem dX7_lookForSecondKey_20 : decode cX7_lookForSecondKey 20 = .ok (.getfield 17, 3) := by decide +kernel
theorem dX7_lookForSecondKey_23 : decode cX7_lookForSecondKey 23 = .ok (.iload_n 2, 1) := by decide +kernel
theorem dX7_lookForSecondKey_24 : decode cX7_lookForSecondKey 24 = .ok (.aaload, 1) := by decide +kernel
theorem dX7_lookForSecondKey_25 : decode cX7_lookForSecondKey 25 = .ok (.getfield 115, 3) := by decide +kernel
theorem dX7_lookForSecondKey_28 : decode cX7_lookForSecondKey 28 = .ok (.iconst 4, 1) := by decide +kernel
theorem dX7_lookForSecondKey_29 : decode cX7_lookForSecondKey 29 = .ok (.iand, 1) := by decide +kernel
theorem dX7_lookForSecondKey_30 : decode cX7_lookForSecondKey 30 = .ok (.ifCond .eq 6, 3) := by decide +kernel
theorem dX7_lookForSecondKey_33 : decode cX7_lookForSecondKey 33 = .ok (.iinc 1 1, 3) := by decide +kernel
theorem dX7_lookForSecondKey_36 : decode cX7_lookForSecondKey 36 = .ok (.iload_n 1, 1) := by decide +kernel
theorem dX7_lookForSecondKey_37 : decode cX7_lookForSecondKey 37 = .ok (.iconst 2, 1) := by decide +kernel
theorem dX7_lookForSecondKey_38 : decode cX7_lookForSecondKey 38 = .ok (.if_icmp .ne 28, 3) := by decide +kernel
theorem dX7_lookForSecondKey_41 : decode cX7_lookForSecondKey 41 = .ok (.aload_n 0, 1) := by decide +kernel
theorem dX7_lookForSecondKey_42 : decode cX7_lookForSecondKey 42 = .ok (.iconst 3, 1) := by decide +kernel
theorem dX7_lookForSecondKey_43 : decode cX7_lookForSecondKey 43 = .ok (.aload_n 0, 1) := by decide +kernel
theorem dX7_lookForSecondKey_44 : decode cX7_lookForSecondKey 44 = .ok (.getfield 17, 3) := by decide +kernel
theorem dX7_lookForSecondKey_47 : decode cX7_lookForSecondKey 47 = .ok (.iload_n 2, 1) := by decide +kernel
theorem dX7_lookForSecondKey_48 : decode cX7_lookForSecondKey 48 = .ok (.aaload, 1) := by decide +kernel
theorem dX7_lookForSecondKey_49 : decode cX7_lookForSecondKey 49 = .ok (.getfield 111, 3) := by decide +kernel
theorem dX7_lookForSecondKey_52 : decode cX7_lookForSecondKey 52 = .ok (.aload_n 0, 1) := by decide +kernel
theorem dX7_lookForSecondKey_53 : decode cX7_lookForSecondKey 53 = .ok (.getfield 17, 3) := by decide +kernel
theorem dX7_lookForSecondKey_56 : decode cX7_lookForSecondKey 56 = .ok (.iload_n 2, 1) := by decide +kernel
theorem dX7_lookForSecondKey_57 : decode cX7_lookForSecondKey 57 = .ok (.aaload, 1) := by decide +kernel
theorem dX7_lookForSecondKey_58 : decode cX7_lookForSecondKey 58 = .ok (.getfield 112, 3) := by decide +kernel
theorem dX7_lookForSecondKey_61 : decode cX7_lookForSecondKey 61 = .ok (.bipush (-9), 2) := by decide +kernel
theorem dX7_lookForSecondKey_63 : decode cX7_lookForSecondKey 63 = .ok (.invokevirtual 95, 3) := by decide +kernel
theorem dX7_lookForSecondKey_66 : decode cX7_lookForSecondKey 66 = .ok (.iinc 2 1, 3) := by decide +kernel
theorem dX7_lookForSecondKey_69 : decode cX7_lookForSecondKey 69 = .ok (.goto (-65), 3) := by decide +kernel
theorem dX7_lookForSecondKey_72 : decode cX7_lookForSecondKey 72 = .ok (.return_, 1) := by decide +kernel
def fn_X7_lookForSecondKey_b66 (rc4 : mz_H → (Option Nat) → Int32 → Int32 → mz_Res Unit) (h : mz_H) (a0 : (Option Nat)) (x1 : Int32) (x2 : Int32) : mz_Res Unit :=
  mz_op (some (x2 + 1)) fun v1 =>
  rc4 h a0 x1 v1
set_option maxHeartbeats 4000000 in
set_option maxRecDepth 100000 in
theorem pf_X7_lookForSecondKey_b66 (r : Unit) (Y : mz_Y p g RX7 cX7_lookForSecondKey 3 none "lookForSecondKey" (mz_AF h0) s m args meth c) {rc4 : mz_H → (Option Nat) → Int32 → Int32 → mz_Res Unit} (hrc4 : ∀ (h : mz_H) (a0 : (Option Nat)) (x1 : Int32) (x2 : Int32) (dc ds : Nat), rc4 h a0 x1 x2 = some (r, hf, dc, ds) → mz_Go l g p e s m args below meth c 1 24 DC DS h0 none hf 3 4 [(0, false, va_rf a0), (1, false, .int x1), (2, false, .int x2)] [] h dc ds) (h : mz_H) (a0 : (Option Nat)) (x1 : Int32) (x2 : Int32) (dc ds : Nat) (hr : fn_X7_lookForSecondKey_b66 rc4 h a0 x1 x2 = some (r, hf, dc, ds)) : mz_Go l g p e s m args below meth c 1 24 DC DS h0 none hf 3 66 [(0, false, va_rf a0), (1, false, .int x1), (2, false, .int x2)] [] h dc ds := by
  unfold fn_X7_lookForSecondKey_b66 at hr
  intro H locs cells slots ls hH hS hl hc hs
  have X := Y.1
  obtain ⟨v1, hv1, hr⟩ := mz_op_some hr
  have hv1 := Option.some.inj hv1
  refine mz_iinc (k := 2) X [(2, false, .int v1), (0, false, va_rf a0), (1, false, .int x1)] v1 dX7_lookForSecondKey_66 hl rfl hv1 (by decide) rfl (fun ls hl => ?_)
  refine lv_goto (tgt := 4) X.1 X.2.1 dX7_lookForSecondKey_69 (by decide) ?_
  exact hrc4 h a0 x1 v1 _ _ hr H locs cells slots ls hH hS (mz_sub hl [1, 2, 0] rfl) hc hs
def fn_X7_lookForSecondKey_b36 (rc4 : mz_H → (Option Nat) → Int32 → Int32 → mz_Res Unit) (h : mz_H) (a0 : (Option Nat)) (x1 : Int32) (x2 : Int32) : mz_Res Unit :=
  if x1 = 2 then
    mz_op (mz_fR h a0 6 1) fun v1 =>
    mz_op (mz_aR h v1 11 x2) fun v2 =>
    mz_op (mz_fI h v2 1 0) fun v3 =>
    mz_op (mz_fR h a0 6 1) fun v4 =>
    mz_op (mz_aR h v4 11 x2) fun v5 =>
    mz_op (mz_fI h v5 1 1) fun v6 =>
    mz_chk (mz_is h a0 6) <| mz_call (fn_X7_tell h a0 3 v3 v6 (-9)) fun _ h =>
    fn_X7_lookForSecondKey_b66 rc4 h a0 x1 x2
  else
    fn_X7_lookForSecondKey_b66 rc4 h a0 x1 x2
set_option maxHeartbeats 4000000 in
set_option maxRecDepth 100000 in
theorem pf_X7_lookForSecondKey_b36 (r : Unit) (Y : mz_Y p g RX7 cX7_lookForSecondKey 3 none "lookForSecondKey" (mz_AF h0) s m args meth c) {rc4 : mz_H → (Option Nat) → Int32 → Int32 → mz_Res Unit} (hrc4 : ∀ (h : mz_H) (a0 : (Option Nat)) (x1 : Int32) (x2 : Int32) (dc ds : Nat), rc4 h a0 x1 x2 = some (r, hf, dc, ds) → mz_Go l g p e s m args below meth c 1 24 DC DS h0 none hf 3 4 [(0, false, va_rf a0), (1, false, .int x1), (2, false, .int x2)] [] h dc ds) (h : mz_H) (a0 : (Option Nat)) (x1 : Int32) (x2 : Int32) (dc ds : Nat) (hr : fn_X7_lookForSecondKey_b36 rc4 h a0 x1 x2 = some (r, hf, dc, ds)) : mz_Go l g p e s m args below meth c 1 24 DC DS h0 none hf 3 36 [(0, false, va_rf a0), (1, false, .int x1), (2, false, .int x2)] [] h dc ds := by
  unfold fn_X7_lookForSecondKey_b36 at hr
  intro H locs cells slots ls hH hS hl hc hs
  have X := Y.1
  refine lv_iload_n X.1 X.2.1 dX7_lookForSecondKey_36 rfl (mz_at hl 1 rfl) ?_
  refine lv_iconst (v := 2) X.1 X.2.1 dX7_lookForSecondKey_37 (by decide) ?_
  refine mz_icmp_ne X 66 dX7_lookForSecondKey_38 (by decide) hr (fun hr => ?_) (fun hr => ?_)
  · exact pf_X7_lookForSecondKey_b66 r Y hrc4 h a0 x1 x2 _ _ hr H locs cells slots ls hH hS (mz_sub hl [0, 1, 2] rfl) hc hs
  · refine mz_aload_n X dX7_lookForSecondKey_41 rfl (mz_at hl 0 rfl) ?_
    refine lv_iconst (v := 3) X.1 X.2.1 dX7_lookForSecondKey_42 (by decide) ?_
    refine mz_aload_n X dX7_lookForSecondKey_43 rfl (mz_at hl 0 rfl) ?_
    refine mz_getR X hH fl_RX7_17 dX7_lookForSecondKey_44 hr (fun v1 hr => ?_)
    refine lv_iload_n X.1 X.2.1 dX7_lookForSecondKey_47 rfl (mz_at hl 2 rfl) ?_
    refine mz_aald (t := 11) X hH (by decide) rfl dX7_lookForSecondKey_48 hr (fun v2 hr => ?_)
    refine mz_getI X hH fl_RX7_111 dX7_lookForSecondKey_49 hr (fun v3 hr => ?_)
    refine mz_aload_n X dX7_lookForSecondKey_52 rfl (mz_at hl 0 rfl) ?_
    refine mz_getR X hH fl_RX7_17 dX7_lookForSecondKey_53 hr (fun v4 hr => ?_)
    refine lv_iload_n X.1 X.2.1 dX7_lookForSecondKey_56 rfl (mz_at hl 2 rfl) ?_
    refine mz_aald (t := 11) X hH (by decide) rfl dX7_lookForSecondKey_57 hr (fun v5 hr => ?_)
    refine mz_getI X hH fl_RX7_112 dX7_lookForSecondKey_58 hr (fun v6 hr => ?_)
    refine lv_bipush (v := (-9)) X.1 X.2.1 dX7_lookForSecondKey_61 (by decide) ?_
    refine mz_kV0 X hH hS hl.1.1 [.int 3, .int v3, .int v6, .int (-9)] [] hr (ct_X7_tell l g h a0 3 v3 v6 (-9)) mb_RX7_95 rfl im_X7_tell rfl (Nat.le_of_ble_eq_true rfl) ⟨Nat.le_of_ble_eq_true rfl, Nat.le_of_ble_eq_true rfl⟩ hc hs dX7_lookForSecondKey_63 rfl (fun _ h H locs cells slots dc ds hr hH hS hc hs => ?_)
    exact pf_X7_lookForSecondKey_b66 r Y hrc4 h a0 x1 x2 _ _ hr H locs cells slots ls hH hS (mz_sub hl [0, 1, 2] rfl) hc hs
def fn_X7_lookForSecondKey_b4 : Nat → mz_H → (Option Nat) → Int32 → Int32 → mz_Res Unit
  | 0, _, _, _, _ => none
  | n + 1, h, a0, x1, x2 =>
    mz_op (mz_fI h a0 6 2) fun v1 =>
    if v1 ≤ x2 then
      mz_ret () h
    else
      mz_op (mz_fI h a0 6 3) fun v2 =>
      if v2 = 0 then
        mz_op (mz_fR h a0 6 1) fun v3 =>
        mz_op (mz_aR h v3 11 x2) fun v4 =>
        mz_op (mz_fI h v4 1 5) fun v5 =>
        if (v5 &&& 4) = 0 then
          fn_X7_lookForSecondKey_b36 (fn_X7_lookForSecondKey_b4 n) h a0 x1 x2
        else
          mz_op (some (x1 + 1)) fun v6 =>
          fn_X7_lookForSecondKey_b36 (fn_X7_lookForSecondKey_b4 n) h a0 v6 x2
      else
        mz_ret () h
set_option maxHeartbeats 4000000 in
set_option maxRecDepth 100000 in
theorem pf_X7_lookForSecondKey_b4 (r : Unit) (Y : mz_Y p g RX7 cX7_lookForSecondKey 3 none "lookForSecondKey" (mz_AF h0) s m args meth c) : ∀ (n : Nat) (h : mz_H) (a0 : (Option Nat)) (x1 : Int32) (x2 : Int32) (dc ds : Nat), fn_X7_lookForSecondKey_b4 n h a0 x1 x2 = some (r, hf, dc, ds) → mz_Go l g p e s m args below meth c 1 24 DC DS h0 none hf 3 4 [(0, false, va_rf a0), (1, false, .int x1), (2, false, .int x2)] [] h dc ds := by
  have X := Y.1
  intro n
  induction n with
  | zero => intro h a0 x1 x2 dc ds hr; simp [fn_X7_lookForSecondKey_b4] at hr
  | succ n ih =>
    intro h a0 x1 x2 dc ds hr
    rw [fn_X7_lookForSecondKey_b4] at hr
    intro H locs cells slots ls hH hS hl hc hs
    refine lv_iload_n X.1 X.2.1 dX7_lookForSecondKey_4 rfl (mz_at hl 2 rfl) ?_
    refine mz_aload_n X dX7_lookForSecondKey_5 rfl (mz_at hl 0 rfl) ?_
    refine mz_getI X hH fl_RX7_33 dX7_lookForSecondKey_6 hr (fun v1 hr => ?_)
    refine mz_icmp_ge X 72 dX7_lookForSecondKey_9 (by decide) hr (fun hr => ?_) (fun hr => ?_)
    · exact mz_vret Y dX7_lookForSecondKey_72 hH hS hc hs hr
    · refine mz_aload_n X dX7_lookForSecondKey_12 rfl (mz_at hl 0 rfl) ?_
      refine mz_getI X hH fl_RX7_66 dX7_lookForSecondKey_13 hr (fun v2 hr => ?_)
      refine mz_if_ne X 72 dX7_lookForSecondKey_16 (by decide) hr (fun hr => ?_) (fun hr => ?_)
      · exact mz_vret Y dX7_lookForSecondKey_72 hH hS hc hs hr
      · refine mz_aload_n X dX7_lookForSecondKey_19 rfl (mz_at hl 0 rfl) ?_
        refine mz_getR X hH fl_RX7_17 dX7_lookForSecondKey_20 hr (fun v3 hr => ?_)
        refine lv_iload_n X.1 X.2.1 dX7_lookForSecondKey_23 rfl (mz_at hl 2 rfl) ?_
        refine mz_aald (t := 11) X hH (by decide) rfl dX7_lookForSecondKey_24 hr (fun v4 hr => ?_)
        refine mz_getI X hH fl_RX7_115 dX7_lookForSecondKey_25 hr (fun v5 hr => ?_)
        refine lv_iconst (v := 4) X.1 X.2.1 dX7_lookForSecondKey_28 (by decide) ?_
        refine lv_iand X.1 X.2.1 dX7_lookForSecondKey_29 ?_
        refine mz_if_eq X 36 dX7_lookForSecondKey_30 (by decide) hr (fun hr => ?_) (fun hr => ?_)
        · exact pf_X7_lookForSecondKey_b36 r Y ih h a0 x1 x2 _ _ hr H locs cells slots ls hH hS (mz_sub hl [0, 1, 2] rfl) hc hs
        · obtain ⟨v6, hv6, hr⟩ := mz_op_some hr
          have hv6 := Option.some.inj hv6
          refine mz_iinc (k := 1) X [(1, false, .int v6), (0, false, va_rf a0), (2, false, .int x2)] v6 dX7_lookForSecondKey_33 hl rfl hv6 (by decide) rfl (fun ls hl => ?_)
          exact pf_X7_lookForSecondKey_b36 r Y ih h a0 v6 x2 _ _ hr H locs cells slots ls hH hS (mz_sub hl [1, 0, 2] rfl) hc hs
def fn_X7_lookForSecondKey (h : mz_H) (a0 : (Option Nat)) : mz_Res Unit :=
  fn_X7_lookForSecondKey_b4 1001 h a0 0 0
set_option maxHeartbeats 4000000 in
set_option maxRecDepth 100000 in
theorem pf_X7_lookForSecondKey_b0 (r : Unit) (Y : mz_Y p g RX7 cX7_lookForSecondKey 3 none "lookForSecondKey" (mz_AF h0) s m args meth c) (h : mz_H) (a0 : (Option Nat)) (dc ds : Nat) (hr : fn_X7_lookForSecondKey h a0 = some (r, hf, dc, ds)) : mz_Go l g p e s m args below meth c 1 24 DC DS h0 none hf 3 0 [(0, false, va_rf a0)] [] h dc ds := by
  unfold fn_X7_lookForSecondKey at hr
  intro H locs cells slots ls hH hS hl hc hs
  have X := Y.1
  refine lv_iconst (v := 0) X.1 X.2.1 dX7_lookForSecondKey_0 (by decide) ?_
  refine mz_istore_n X [(1, false, .int 0), (0, false, va_rf a0)] dX7_lookForSecondKey_1 rfl hl (by decide) rfl (fun ls hl => ?_)
  refine lv_iconst (v := 0) X.1 X.2.1 dX7_lookForSecondKey_2 (by decide) ?_
  refine mz_istore_n X [(2, false, .int 0), (1, false, .int 0), (0, false, va_rf a0)] dX7_lookForSecondKey_3 rfl hl (by decide) rfl (fun ls hl => ?_)
  exact pf_X7_lookForSecondKey_b4 r Y 1001 h a0 0 0 _ _ hr H locs cells slots ls hH hS (mz_sub hl [2, 1, 0] rfl) hc hs
set_option maxRecDepth 100000 in
theorem ct_X7_lookForSecondKey (l : Launch) (g : mz_G) (h : mz_H) (a0 : (Option Nat)) (r : Unit) (hf : mz_H) (k n : Nat) (hr : fn_X7_lookForSecondKey h a0 = some (r, hf, k, n)) : mz_C l g yX7_lookForSecondKey cX7_lookForSecondKey 3 none 1 24 [va_rf a0] h none hf k n := by
  refine mz_met (as := [(false, va_rf a0)]) (plainFor_of_name (by decide)) (mz_c1 (mz_cat_rf _) mz_c0) (Nat.le_of_ble_eq_true rfl) ?_
  intro p e s m args below meth c Y
  exact pf_X7_lookForSecondKey_b0 r Y h a0 _ _ hr
theorem dX7_read_0 : decode cX7_read 0 = .ok (.aload_n 0, 1) := by decide +kernel
theorem dX7_read_1 : decode cX7_read 1 = .ok (.invokevirtual 36, 3) := by decide +kernel
theorem dX7_read_4 : decode cX7_read 4 = .ok (.aload_n 1, 1) := by decide +kernel
theorem dX7_read_5 : decode cX7_read 5 = .ok (.iload_n 2, 1) := by decide +kernel
theorem dX7_read_6 : decode cX7_read 6 = .ok (.invokevirtual 39, 3) := by decide +kernel
theorem dX7_read_9 : decode cX7_read 9 = .ok (.istore_n 3, 1) := by decide +kernel
theorem dX7_read_10 : decode cX7_read 10 = .ok (.iconst 0, 1) := by decide +kernel
theorem dX7_read_11 : decode cX7_read 11 = .ok (.istore 4, 2) := by decide +kernel
theorem dX7_read_13 : decode cX7_read 13 = .ok (.iload 4, 2) := by decide +kernel
theorem dX7_read_15 : decode cX7_read 15 = .ok (.iload_n 3, 1) := by decide +kernel
theorem dX7_read_16 : decode cX7_read 16 = .ok (.if_icmp .ge 31, 3) := by decide +kernel
theorem dX7_read_19 : decode cX7_read 19 = .ok (.aload_n 0, 1) := by decide +kernel
theorem dX7_read_20 : decode cX7_read 20 = .ok (.aload_n 1, 1) := by decide +kernel
theorem dX7_read_21 : decode cX7_read 21 = .ok (.getfield 45, 3) := by decide +kernel
theorem dX7_read_24 : decode cX7_read 24 = .ok (.iload 4, 2) := by decide +kernel
theorem dX7_read_26 : decode cX7_read 26 = .ok (.iaload, 1) := by decide +kernel
theorem dX7_read_27 : decode cX7_read 27 = .ok (.aload_n 1, 1) := by decide +kernel
theorem dX7_read_28 : decode cX7_read 28 = .ok (.aload_n 1, 1) := by decide +kernel
theorem dX7_read_29 : decode cX7_read 29 = .ok (.getfield 45, 3) := by decide +kernel
theorem dX7_read_32 : decode cX7_read 32 = .ok (.iload 4, 2) := by decide +kernel
theorem dX7_read_34 : decode cX7_read 34 = .ok (.iaload, 1) := by decide +kernel
theorem dX7_read_35 : decode cX7_read 35 = .ok (.invokevirtual 49, 3) := by decide +kernel
theorem dX7_read_38 : decode cX7_read 38 = .ok (.invokevirtual 53, 3) := by decide +kernel
theorem dX7_read_41 : decode cX7_read 41 = .ok (.iinc 4 1, 3) := by decide +kernel
theorem dX7_read_44 : decode cX7_read 44 = .ok (.goto (-31), 3) := by decide +kernel
theorem dX7_read_47 : decode cX7_read 47 = .ok (.aload_n 0, 1) := by decide +kernel
theorem dX7_read_48 : decode cX7_read 48 = .ok (.invokevirtual 57, 3) := by decide +kernel
theorem dX7_read_51 : decode cX7_read 51 = .ok (.aload_n 0, 1) := by decide +kernel
theorem dX7_read_52 : decode cX7_read 52 = .ok (.invokevirtual 60, 3) := by decide +kernel
theorem dX7_read_55 : decode cX7_read 55 = .ok (.aload_n 0, 1) := by decide +kernel
theorem dX7_read_56 : decode cX7_read 56 = .ok (.invokevirtual 63, 3) := by decide +kernel
theorem dX7_read_59 : decode cX7_read 59 = .ok (.aload_n 0, 1) := by decide +kernel
theorem dX7_read_60 : decode cX7_read 60 = .ok (.getfield 66, 3) := by decide +kernel
theorem dX7_read_63 : decode cX7_read 63 = .ok (.ifCond .eq 8, 3) := by decide +kernel
theorem dX7_read_66 : decode cX7_read 66 = .ok (.aload_n 0, 1) := by decide +kernel
theorem dX7_read_67 : decode cX7_read 67 = .ok (.iconst 0, 1) := by decide +kernel
theorem dX7_read_68 : decode cX7_read 68 = .ok (.putfield 33, 3) := by decide +kernel
theorem dX7_read_71 : decode cX7_read 71 = .ok (.return_, 1) := by decide +kernel
def fn_X7_read_b13 : Nat → mz_H → (Option Nat) → (Option Nat) → Int32 → Int32 → mz_Res Unit
  | 0, _, _, _, _, _ => none
  | n + 1, h, a0, a1, x3, x4 =>
    if x3 ≤ x4 then
      mz_chk (mz_is h a0 6) <| mz_call (fn_X7_gather h a0) fun _ h =>
      mz_chk (mz_is h a0 6) <| mz_call (fn_X7_lookForClash h a0) fun _ h =>
      mz_chk (mz_is h a0 6) <| mz_call (fn_X7_lookForSecondKey h a0) fun _ h =>
      mz_op (mz_fI h a0 6 3) fun v1 =>
      if v1 = 0 then
        mz_ret () h
      else
        mz_op (mz_pF h a0 6 2 (Value.int 0)) fun h =>
        mz_ret () h
    else
      mz_op (mz_fR h a1 9 2) fun v2 =>
      mz_op (mz_aI h v2 0 x4) fun v3 =>
      mz_op (mz_fR h a1 9 2) fun v4 =>
      mz_op (mz_aI h v4 0 x4) fun v5 =>
      mz_chk (mz_is h a1 9) <| mz_call (fn_X10_typeOf h a1 v5) fun v6 h =>
      mz_chk (mz_is h a0 6) <| mz_call (fn_X7_takeMembers h a0 v3 v6) fun _ h =>
      mz_op (some (x4 + 1)) fun v7 =>
      fn_X7_read_b13 n h a0 a1 x3 v7
set_option maxHeartbeats 4000000 in
set_option maxRecDepth 100000 in
theorem pf_X7_read_b13 (r : Unit) (Y : mz_Y p g RX7 cX7_read 5 none "read" (mz_AF h0) s m args meth c) : ∀ (n : Nat) (h : mz_H) (a0 : (Option Nat)) (a1 : (Option Nat)) (x3 : Int32) (x4 : Int32) (dc ds : Nat), fn_X7_read_b13 n h a0 a1 x3 x4 = some (r, hf, dc, ds) → mz_Go l g p e s m args below meth c 66 2568 DC DS h0 none hf 5 13 [(0, false, va_rf a0), (1, false, va_rf a1), (3, false, .int x3), (4, false, .int x4)] [] h dc ds := by
  have X := Y.1
  intro n
  induction n with
  | zero => intro h a0 a1 x3 x4 dc ds hr; simp [fn_X7_read_b13] at hr
  | succ n ih =>
    intro h a0 a1 x3 x4 dc ds hr
    rw [fn_X7_read_b13] at hr
    intro H locs cells slots ls hH hS hl hc hs
    refine lv_iload X.1 X.2.1 dX7_read_13 (mz_at hl 3 rfl) ?_
    refine lv_iload_n X.1 X.2.1 dX7_read_15 rfl (mz_at hl 2 rfl) ?_
    refine mz_icmp_ge X 47 dX7_read_16 (by decide) hr (fun hr => ?_) (fun hr => ?_)
    · refine mz_aload_n X dX7_read_47 rfl (mz_at hl 0 rfl) ?_
      refine mz_kV0 X hH hS hl.1.1 [] [] hr (ct_X7_gather l g h a0) mb_RX7_57 rfl im_X7_gather rfl (Nat.le_of_ble_eq_true rfl) ⟨Nat.le_of_ble_eq_true rfl, Nat.le_of_ble_eq_true rfl⟩ hc hs dX7_read_48 rfl (fun _ h H locs cells slots dc ds hr hH hS hc hs => ?_)
      refine mz_aload_n X dX7_read_51 rfl (mz_at hl 0 rfl) ?_
      refine mz_kV0 X hH hS hl.1.1 [] [] hr (ct_X7_lookForClash l g h a0) mb_RX7_60 rfl im_X7_lookForClash rfl (Nat.le_of_ble_eq_true rfl) ⟨Nat.le_of_ble_eq_true rfl, Nat.le_of_ble_eq_true rfl⟩ hc hs dX7_read_52 rfl (fun _ h H locs cells slots dc ds hr hH hS hc hs => ?_)
      refine mz_aload_n X dX7_read_55 rfl (mz_at hl 0 rfl) ?_
      refine mz_kV0 X hH hS hl.1.1 [] [] hr (ct_X7_lookForSecondKey l g h a0) mb_RX7_63 rfl im_X7_lookForSecondKey rfl (Nat.le_of_ble_eq_true rfl) ⟨Nat.le_of_ble_eq_true rfl, Nat.le_of_ble_eq_true rfl⟩ hc hs dX7_read_56 rfl (fun _ h H locs cells slots dc ds hr hH hS hc hs => ?_)
      refine mz_aload_n X dX7_read_59 rfl (mz_at hl 0 rfl) ?_
      refine mz_getI X hH fl_RX7_66 dX7_read_60 hr (fun v1 hr => ?_)
      refine mz_if_eq X 71 dX7_read_63 (by decide) hr (fun hr => ?_) (fun hr => ?_)
      · exact mz_vret Y dX7_read_71 hH hS hc hs hr
      · refine mz_aload_n X dX7_read_66 rfl (mz_at hl 0 rfl) ?_
        refine lv_iconst (v := 0) X.1 X.2.1 dX7_read_67 (by decide) ?_
        refine mz_put X hH hS fp_RX7_33 dX7_read_68 rfl rfl hr (fun h H locs hr hH hS => ?_)
        exact mz_vret Y dX7_read_71 hH hS hc hs hr
    · refine mz_aload_n X dX7_read_19 rfl (mz_at hl 0 rfl) ?_
      refine mz_aload_n X dX7_read_20 rfl (mz_at hl 1 rfl) ?_
      refine mz_getR X hH fl_RX7_45 dX7_read_21 hr (fun v2 hr => ?_)
      refine lv_iload X.1 X.2.1 dX7_read_24 (mz_at hl 3 rfl) ?_
      refine mz_iald X hH dX7_read_26 hr (fun v3 hr => ?_)
      refine mz_aload_n X dX7_read_27 rfl (mz_at hl 1 rfl) ?_
      refine mz_aload_n X dX7_read_28 rfl (mz_at hl 1 rfl) ?_
      refine mz_getR X hH fl_RX7_45 dX7_read_29 hr (fun v4 hr => ?_)
      refine lv_iload X.1 X.2.1 dX7_read_32 (mz_at hl 3 rfl) ?_
      refine mz_iald X hH dX7_read_34 hr (fun v5 hr => ?_)
      refine mz_kV va_rf X hH hS hl.1.1 [.int v5] [.int v3, va_rf a0] hr (ct_X10_typeOf l g h a1 v5) mb_RX7_49 rfl im_X10_typeOf rfl (Nat.le_of_ble_eq_true rfl) ⟨Nat.le_of_ble_eq_true rfl, Nat.le_of_ble_eq_true rfl⟩ hc hs dX7_read_35 rfl (fun v6 h H locs cells slots dc ds hr hH hS hc hs => ?_)
      refine mz_kV0 X hH hS hl.1.1 [.int v3, va_rf v6] [] hr (ct_X7_takeMembers l g h a0 v3 v6) mb_RX7_53 rfl im_X7_takeMembers rfl (Nat.le_of_ble_eq_true rfl) ⟨Nat.le_of_ble_eq_true rfl, Nat.le_of_ble_eq_true rfl⟩ hc hs dX7_read_38 rfl (fun _ h H locs cells slots dc ds hr hH hS hc hs => ?_)
      obtain ⟨v7, hv7, hr⟩ := mz_op_some hr
      have hv7 := Option.some.inj hv7
      refine mz_iinc (k := 3) X [(4, false, .int v7), (0, false, va_rf a0), (1, false, va_rf a1), (3, false, .int x3)] v7 dX7_read_41 hl rfl hv7 (by decide) rfl (fun ls hl => ?_)
      refine lv_goto (tgt := 13) X.1 X.2.1 dX7_read_44 (by decide) ?_
      exact ih h a0 a1 x3 v7 _ _ hr H locs cells slots ls hH hS (mz_sub hl [1, 2, 3, 0] rfl) hc hs
def fn_X7_read (h : mz_H) (a0 : (Option Nat)) (a1 : (Option Nat)) (x2 : Int32) : mz_Res Unit :=
  mz_chk (mz_is h a0 6) <| mz_call (fn_X7_forget h a0) fun _ h =>
  mz_chk (mz_is h a1 9) <| mz_call (fn_X10_wayLengthOf h a1 x2) fun v1 h =>
  fn_X7_read_b13 1001 h a0 a1 v1 0
set_option maxHeartbeats 4000000 in
set_option maxRecDepth 100000 in
theorem pf_X7_read_b0 (r : Unit) (Y : mz_Y p g RX7 cX7_read 5 none "read" (mz_AF h0) s m args meth c) (h : mz_H) (a0 : (Option Nat)) (a1 : (Option Nat)) (x2 : Int32) (dc ds : Nat) (hr : fn_X7_read h a0 a1 x2 = some (r, hf, dc, ds)) : mz_Go l g p e s m args below meth c 66 2568 DC DS h0 none hf 5 0 [(0, false, va_rf a0), (1, false, va_rf a1), (2, false, .int x2)] [] h dc ds := by
  unfold fn_X7_read at hr
  intro H locs cells slots ls hH hS hl hc hs
  have X := Y.1
  refine mz_aload_n X dX7_read_0 rfl (mz_at hl 0 rfl) ?_
  refine mz_kV0 X hH hS hl.1.1 [] [] hr (ct_X7_forget l g h a0) mb_RX7_36 rfl im_X7_forget rfl (Nat.le_of_ble_eq_true rfl) ⟨Nat.le_of_ble_eq_true rfl, Nat.le_of_ble_eq_true rfl⟩ hc hs dX7_read_1 rfl (fun _ h H locs cells slots dc ds hr hH hS hc hs => ?_)
  refine mz_aload_n X dX7_read_4 rfl (mz_at hl 1 rfl) ?_
  refine lv_iload_n X.1 X.2.1 dX7_read_5 rfl (mz_at hl 2 rfl) ?_
  refine mz_kV Value.int X hH hS hl.1.1 [.int x2] [] hr (ct_X10_wayLengthOf l g h a1 x2) mb_RX7_39 rfl im_X10_wayLengthOf rfl (Nat.le_of_ble_eq_true rfl) ⟨Nat.le_of_ble_eq_true rfl, Nat.le_of_ble_eq_true rfl⟩ hc hs dX7_read_6 rfl (fun v1 h H locs cells slots dc ds hr hH hS hc hs => ?_)
  refine mz_istore_n X [(3, false, .int v1), (0, false, va_rf a0), (1, false, va_rf a1), (2, false, .int x2)] dX7_read_9 rfl hl (by decide) rfl (fun ls hl => ?_)
  refine lv_iconst (v := 0) X.1 X.2.1 dX7_read_10 (by decide) ?_
  refine mz_istore X [(4, false, .int 0), (3, false, .int v1), (0, false, va_rf a0), (1, false, va_rf a1), (2, false, .int x2)] dX7_read_11 hl (by decide) rfl (fun ls hl => ?_)
  exact pf_X7_read_b13 r Y 1001 h a0 a1 v1 0 _ _ hr H locs cells slots ls hH hS (mz_sub hl [2, 3, 1, 0] rfl) hc hs
set_option maxRecDepth 100000 in
theorem ct_X7_read (l : Launch) (g : mz_G) (h : mz_H) (a0 : (Option Nat)) (a1 : (Option Nat)) (x2 : Int32) (r : Unit) (hf : mz_H) (k n : Nat) (hr : fn_X7_read h a0 a1 x2 = some (r, hf, k, n)) : mz_C l g yX7_read cX7_read 5 none 66 2568 [va_rf a0, va_rf a1, .int x2] h none hf k n := by
  refine mz_met (as := [(false, va_rf a0), (false, va_rf a1), (false, .int x2)]) (plainFor_of_name (by decide)) (mz_c1 (mz_cat_rf _) (mz_c1 (mz_cat_rf _) (mz_c1 rfl mz_c0))) (Nat.le_of_ble_eq_true rfl) ?_
  intro p e s m args below meth c Y
  exact pf_X7_read_b0 r Y h a0 a1 x2 _ _ hr
theorem dX8_init_0 : decode cX8_init 0 = .ok (.aload_n 0, 1) := by decide +kernel
theorem dX8_init_1 : decode cX8_init 1 = .ok (.invokespecial 3, 3) := by decide +kernel
theorem dX8_init_4 : decode cX8_init 4 = .ok (.aload_n 0, 1) := by decide +kernel
theorem dX8_init_5 : decode cX8_init 5 = .ok (.iload_n 1, 1) := by decide +kernel
theorem dX8_init_6 : decode cX8_init 6 = .ok (.putfield 9, 3) := by decide +kernel
theorem dX8_init_9 : decode cX8_init 9 = .ok (.aload_n 0, 1) := by decide +kernel
theorem dX8_init_10 : decode cX8_init 10 = .ok (.aload_n 2, 1) := by decide +kernel
theorem dX8_init_11 : decode cX8_init 11 = .ok (.getfield 15, 3) := by decide +kernel
theorem dX8_init_14 : decode cX8_init 14 = .ok (.anewarray 20, 3) := by decide +kernel
theorem dX8_init_17 : decode cX8_init 17 = .ok (.putfield 22, 3) := by decide +kernel
theorem dX8_init_20 : decode cX8_init 20 = .ok (.iconst 0, 1) := by decide +kernel
theorem dX8_init_21 : decode cX8_init 21 = .ok (.istore_n 3, 1) := by decide +kernel
theorem dX8_init_22 : decode cX8_init 22 = .ok (.iload_n 3, 1) := by decide +kernel
theorem dX8_init_23 : decode cX8_init 23 = .ok (.aload_n 0, 1) := by decide +kernel
theorem dX8_init_24 : decode cX8_init 24 = .ok (.getfield 22, 3) := by decide +kernel
theorem dX8_init_27 : decode cX8_init 27 = .ok (.arraylength, 1) := by decide +kernel
theorem dX8_init_28 : decode cX8_init 28 = .ok (.if_icmp .ge 27, 3) := by decide +kernel
theorem dX8_init_31 : decode cX8_init 31 = .ok (.aload_n 0, 1) := by decide +kernel
theorem dX8_init_32 : decode cX8_init 32 = .ok (.getfield 22, 3) := by decide +kernel
theorem dX8_init_35 : decode cX8_init 35 = .ok (.iload_n 3, 1) := by decide +kernel
theorem dX8_init_36 : decode cX8_init 36 = .ok (.new 20, 3) := by decide +kernel
theorem dX8_init_39 : decode cX8_init 39 = .ok (.dup, 1) := by decide +kernel
theorem dX8_init_40 : decode cX8_init 40 = .ok (.aload_n 2, 1) := by decide +kernel
theorem dX8_init_41 : decode cX8_init 41 = .ok (.iload_n 3, 1) := by decide +kernel
theorem dX8_init_42 : decode cX8_init 42 = .ok (.invokevirtual 26, 3) := by decide +kernel
theorem dX8_init_45 : decode cX8_init 45 = .ok (.invokespecial 30, 3) := by decide +kernel
theorem dX8_init_48 : decode cX8_init 48 = .ok (.aastore, 1) := by decide +kernel
theorem dX8_init_49 : decode cX8_init 49 = .ok (.iinc 3 1, 3) := by decide +kernel
theorem dX8_init_52 : decode cX8_init 52 = .ok (.goto (-30), 3) := by decide +kernel
theorem dX8_init_55 : decode cX8_init 55 = .ok (.return_, 1) := by decide +kernel
def fn_X8_init_b22 : Nat → mz_H → (Option Nat) → (Option Nat) → Int32 → mz_Res Unit
  | 0, _, _, _, _ => none
  | n + 1, h, a0, a2, x3 =>
    mz_op (mz_fR h a0 7 1) fun v1 =>
    mz_op (mz_len h v1 15) fun v2 =>
    if v2 ≤ x3 then
      mz_ret () h
    else
      mz_op (mz_fR h a0 7 1) fun v3 =>
      mz_oN h 5 6 [.int 0, .int 0, .int 0, .int 0, .null, .null] fun v4 h =>
      mz_chk (mz_is h a2 6) <| mz_call (fn_X7_entryAt h a2 x3) fun v5 h =>
      mz_chk (mz_is h v4 5) <| mz_call (fn_X6_init h v4 v5) fun _ h =>
      mz_op (mz_sR h v3 15 x3 v4) fun h =>
      mz_op (some (x3 + 1)) fun v6 =>
      fn_X8_init_b22 n h a0 a2 v6
set_option maxHeartbeats 4000000 in
set_option maxRecDepth 100000 in
theorem pf_X8_init_b22 (r : Unit) (Y : mz_Y p g RX8 cX8_init 4 none "<init>" (mz_AF h0) s m args meth c) : ∀ (n : Nat) (h : mz_H) (a0 : (Option Nat)) (a2 : (Option Nat)) (x3 : Int32) (dc ds : Nat), fn_X8_init_b22 n h a0 a2 x3 = some (r, hf, dc, ds) → mz_Go l g p e s m args below meth c 3 67 DC DS h0 none hf 4 22 [(0, false, va_rf a0), (2, false, va_rf a2), (3, false, .int x3)] [] h dc ds := by
  have X := Y.1
  intro n
  induction n with
  | zero => intro h a0 a2 x3 dc ds hr; simp [fn_X8_init_b22] at hr
  | succ n ih =>
    intro h a0 a2 x3 dc ds hr
    rw [fn_X8_init_b22] at hr
    intro H locs cells slots ls hH hS hl hc hs
    refine lv_iload_n X.1 X.2.1 dX8_init_22 rfl (mz_at hl 2 rfl) ?_
    refine mz_aload_n X dX8_init_23 rfl (mz_at hl 0 rfl) ?_
    refine mz_getR X hH fl_RX8_22 dX8_init_24 hr (fun v1 hr => ?_)
    refine mz_alen (t := 15) X hH (by decide) dX8_init_27 hr (fun v2 hr => ?_)
    refine mz_icmp_ge X 55 dX8_init_28 (by decide) hr (fun hr => ?_) (fun hr => ?_)
    · exact mz_vret Y dX8_init_55 hH hS hc hs hr
    · refine mz_aload_n X dX8_init_31 rfl (mz_at hl 0 rfl) ?_
      refine mz_getR X hH fl_RX8_22 dX8_init_32 hr (fun v3 hr => ?_)
      refine lv_iload_n X.1 X.2.1 dX8_init_35 rfl (mz_at hl 2 rfl) ?_
      refine mz_kN X hH hS tyX6 rfl cl_5 tyX6_ok ⟨mz_tb 503 (by decide +kernel) rfl, mz_tb 505 (by decide +kernel) rfl, mz_tb 49 (by decide +kernel) rfl⟩ nw_5 dX8_init_36 hr hc hs (fun v4 h H cells slots dc ds hr hH hS hc hs => ?_)
      refine mz_dupR X dX8_init_39 ?_
      refine mz_aload_n X dX8_init_40 rfl (mz_at hl 1 rfl) ?_
      refine lv_iload_n X.1 X.2.1 dX8_init_41 rfl (mz_at hl 2 rfl) ?_
      refine mz_kV va_rf X hH hS hl.1.1 [.int x3] [va_rf v4, va_rf v4, .int x3, va_rf v3] hr (ct_X7_entryAt l g h a2 x3) mb_RX8_26 rfl im_X7_entryAt rfl (Nat.le_of_ble_eq_true rfl) ⟨Nat.le_of_ble_eq_true rfl, Nat.le_of_ble_eq_true rfl⟩ hc hs dX8_init_42 rfl (fun v5 h H locs cells slots dc ds hr hH hS hc hs => ?_)
      refine mz_kI X hH hS hl.1.1 [va_rf v5] [va_rf v4, .int x3, va_rf v3] hr (ct_X6_init l g h v4 v5) mb_RX8_30 im_X6_init rfl rfl (Nat.le_of_ble_eq_true rfl) ⟨Nat.le_of_ble_eq_true rfl, Nat.le_of_ble_eq_true rfl⟩ hc hs dX8_init_45 rfl (fun _ h H locs cells slots dc ds hr hH hS hc hs => ?_)
      refine mz_aast (t := 15) X hH hS (by decide) rfl rfl dX8_init_48 hr (fun h H locs hr hH hS => ?_)
      obtain ⟨v6, hv6, hr⟩ := mz_op_some hr
      have hv6 := Option.some.inj hv6
      refine mz_iinc (k := 2) X [(3, false, .int v6), (0, false, va_rf a0), (2, false, va_rf a2)] v6 dX8_init_49 hl rfl hv6 (by decide) rfl (fun ls hl => ?_)
      refine lv_goto (tgt := 22) X.1 X.2.1 dX8_init_52 (by decide) ?_
      exact ih h a0 a2 v6 _ _ hr H locs cells slots ls hH hS (mz_sub hl [1, 2, 0] rfl) hc hs
def fn_X8_init (h : mz_H) (a0 : (Option Nat)) (x1 : Int32) (a2 : (Option Nat)) : mz_Res Unit :=
  mz_chk (a0).isSome <|
  mz_op (mz_pF h a0 7 0 (Value.int x1)) fun h =>
  mz_op (mz_fI h a2 6 2) fun v1 =>
  mz_aN h 15 v1 (.inr (.inr (.inr (.inr (fun _ => none))))) fun v2 h =>
  mz_op (mz_pF h a0 7 1 (va_rf v2)) fun h =>
  fn_X8_init_b22 1001 h a0 a2 0
set_option maxHeartbeats 4000000 in
set_option maxRecDepth 100000 in
theorem pf_X8_init_b0 (r : Unit) (Y : mz_Y p g RX8 cX8_init 4 none "<init>" (mz_AF h0) s m args meth c) (h : mz_H) (a0 : (Option Nat)) (x1 : Int32) (a2 : (Option Nat)) (dc ds : Nat) (hr : fn_X8_init h a0 x1 a2 = some (r, hf, dc, ds)) : mz_Go l g p e s m args below meth c 3 67 DC DS h0 none hf 4 0 [(0, false, va_rf a0), (1, false, .int x1), (2, false, va_rf a2)] [] h dc ds := by
  unfold fn_X8_init at hr
  intro H locs cells slots ls hH hS hl hc hs
  have X := Y.1
  refine mz_aload_n X dX8_init_0 rfl (mz_at hl 0 rfl) ?_
  refine mz_oinit X hl.1.1 oi_RX8_3 (Nat.le_of_ble_eq_true rfl) ⟨Nat.le_of_ble_eq_true rfl, Nat.le_of_ble_eq_true rfl⟩ dX8_init_1 hr (fun hr => ?_)
  refine mz_aload_n X dX8_init_4 rfl (mz_at hl 0 rfl) ?_
  refine lv_iload_n X.1 X.2.1 dX8_init_5 rfl (mz_at hl 1 rfl) ?_
  refine mz_putF X Y.2.2.2 hH hS fp_RX8_9 dX8_init_6 rfl rfl hr (fun h H locs hr hH hS => ?_)
  refine mz_aload_n X dX8_init_9 rfl (mz_at hl 0 rfl) ?_
  refine mz_aload_n X dX8_init_10 rfl (mz_at hl 2 rfl) ?_
  refine mz_getI X hH fl_RX8_15 dX8_init_11 hr (fun v1 hr => ?_)
  refine mz_kR (t := 15) X hH hS (by decide) rfl (by decide) (mz_tb 503 (by decide +kernel) rfl) dX8_init_14 hr hc hs (fun v2 h H cells slots dc ds hr hH hS hc hs => ?_)
  refine mz_putF X Y.2.2.2 hH hS fp_RX8_22 dX8_init_17 (mz_nra _ _).1 (mz_nra _ _).2 hr (fun h H locs hr hH hS => ?_)
  refine lv_iconst (v := 0) X.1 X.2.1 dX8_init_20 (by decide) ?_
  refine mz_istore_n X [(3, false, .int 0), (0, false, va_rf a0), (1, false, .int x1), (2, false, va_rf a2)] dX8_init_21 rfl hl (by decide) rfl (fun ls hl => ?_)
  exact pf_X8_init_b22 r Y 1001 h a0 a2 0 _ _ hr H locs cells slots ls hH hS (mz_sub hl [1, 3, 0] rfl) hc hs
set_option maxRecDepth 100000 in
theorem ct_X8_init (l : Launch) (g : mz_G) (h : mz_H) (a0 : (Option Nat)) (x1 : Int32) (a2 : (Option Nat)) (r : Unit) (hf : mz_H) (k n : Nat) (hr : fn_X8_init h a0 x1 a2 = some (r, hf, k, n)) : mz_C l g yX8_init cX8_init 4 none 3 67 [va_rf a0, .int x1, va_rf a2] h none hf k n := by
  refine mz_met (as := [(false, va_rf a0), (false, .int x1), (false, va_rf a2)]) (plainFor_of_name (by decide)) (mz_c1 (mz_cat_rf _) (mz_c1 rfl (mz_c1 (mz_cat_rf _) mz_c0))) (Nat.le_of_ble_eq_true rfl) ?_
  intro p e s m args below meth c Y
  exact pf_X8_init_b0 r Y h a0 x1 a2 _ _ hr
theorem dX8_init__0 : decode cX8_init_ 0 = .ok (.aload_n 0, 1) := by decide +kernel
theorem dX8_init__1 : decode cX8_init_ 1 = .ok (.invokespecial 3, 3) := by decide +kernel
theorem dX8_init__4 : decode cX8_init_ 4 = .ok (.aload_n 0, 1) := by decide +kernel
theorem dX8_init__5 : decode cX8_init_ 5 = .ok (.aload_n 1, 1) := by decide +kernel
theorem dX8_init__6 : decode cX8_init_ 6 = .ok (.getfield 9, 3) := by decide +kernel
theorem dX8_init__9 : decode cX8_init_ 9 = .ok (.putfield 9, 3) := by decide +kernel
theorem dX8_init__12 : decode cX8_init_ 12 = .ok (.aload_n 0, 1) := by decide +kernel
theorem dX8_init__13 : decode cX8_init_ 13 = .ok (.aload_n 1, 1) := by decide +kernel
theorem dX8_init__14 : decode cX8_init_ 14 = .ok (.getfield 22, 3) := by decide +kernel
theorem dX8_init__17 : decode cX8_init_ 17 = .ok (.arraylength, 1) := by decide +kernel
theorem dX8_init__18 : decode cX8_init_ 18 = .ok (.anewarray 20, 3) := by decide +kernel
theorem dX8_init__21 : decode cX8_init_ 21 = .ok (.putfield 22, 3) := by decide +kernel
theorem dX8_init__24 : decode cX8_init_ 24 = .ok (.iconst 0, 1) := by decide +kernel
theorem dX8_init__25 : decode cX8_init_ 25 = .ok (.istore_n 2, 1) := by decide +kernel
theorem dX8_init__26 : decode cX8_init_ 26 = .ok (.iload_n 2, 1) := by decide +kernel
theorem dX8_init__27 : decode cX8_init_ 27 = .ok (.aload_n 0, 1) := by decide +kernel
theorem dX8_init__28 : decode cX8_init_ 28 = .ok (.getfield 22, 3) := by decide +kernel
theorem dX8_init__31 : decode cX8_init_ 31 = .ok (.arraylength, 1) := by decide +kernel
theorem dX8_init__32 : decode cX8_init_ 32 = .ok (.if_icmp .ge 28, 3) := by decide +kernel
theorem dX8_init__35 : decode cX8_init_ 35 = .ok (.aload_n 0, 1) := by decide +kernel
theorem dX8_init__36 : decode cX8_init_ 36 = .ok (.getfield 22, 3) := by decide +kernel
theorem dX8_init__39 : decode cX8_init_ 39 = .ok (.iload_n 2, 1) := by decide +kernel
theorem dX8_init__40 : decode cX8_init_ 40 = .ok (.new 20, 3) := by decide +kernel
theorem dX8_init__43 : decode cX8_init_ 43 = .ok (.dup, 1) := by decide +kernel
theorem dX8_init__44 : decode cX8_init_ 44 = .ok (.aload_n 1, 1) := by decide +kernel
theorem dX8_init__45 : decode cX8_init_ 45 = .ok (.getfield 22, 3) := by decide +kernel
theorem dX8_init__48 : decode cX8_init_ 48 = .ok (.iload_n 2, 1) := by decide +kernel
theorem dX8_init__49 : decode cX8_init_ 49 = .ok (.aaload, 1) := by decide +kernel
theorem dX8_init__50 : decode cX8_init_ 50 = .ok (.invokespecial 33, 3) := by decide +kernel
theorem dX8_init__53 : decode cX8_init_ 53 = .ok (.aastore, 1) := by decide +kernel
theorem dX8_init__54 : decode cX8_init_ 54 = .ok (.iinc 2 1, 3) := by decide +kernel
theorem dX8_init__57 : decode cX8_init_ 57 = .ok (.goto (-31), 3) := by decide +kernel
theorem dX8_init__60 : decode cX8_init_ 60 = .ok (.return_, 1) := by decide +kernel
def fn_X8_init__b26 : Nat → mz_H → (Option Nat) → (Option Nat) → Int32 → mz_Res Unit
  | 0, _, _, _, _ => none
  | n + 1, h, a0, a1, x2 =>
    mz_op (mz_fR h a0 7 1) fun v1 =>
    mz_op (mz_len h v1 15) fun v2 =>
    if v2 ≤ x2 then
      mz_ret () h
    else
      mz_op (mz_fR h a0 7 1) fun v3 =>
      mz_oN h 5 6 [.int 0, .int 0, .int 0, .int 0, .null, .null] fun v4 h =>
      mz_op (mz_fR h a1 7 1) fun v5 =>
      mz_op (mz_aR h v5 15 x2) fun v6 =>
      mz_chk (mz_is h v4 5) <| mz_call (fn_X6_init_ h v4 v6) fun _ h =>
      mz_op (mz_sR h v3 15 x2 v4) fun h =>
      mz_op (some (x2 + 1)) fun v7 =>
      fn_X8_init__b26 n h a0 a1 v7
set_option maxHeartbeats 4000000 in
set_option maxRecDepth 100000 in
theorem pf_X8_init__b26 (r : Unit) (Y : mz_Y p g RX8 cX8_init_ 3 none "<init>" (mz_AF h0) s m args meth c) : ∀ (n : Nat) (h : mz_H) (a0 : (Option Nat)) (a1 : (Option Nat)) (x2 : Int32) (dc ds : Nat), fn_X8_init__b26 n h a0 a1 x2 = some (r, hf, dc, ds) → mz_Go l g p e s m args below meth c 3 65 DC DS h0 none hf 3 26 [(0, false, va_rf a0), (1, false, va_rf a1), (2, false, .int x2)] [] h dc ds := by
  have X := Y.1
  intro n
  induction n with
  | zero => intro h a0 a1 x2 dc ds hr; simp [fn_X8_init__b26] at hr
  | succ n ih =>
    intro h a0 a1 x2 dc ds hr
    rw [fn_X8_init__b26] at hr
    intro H locs cells slots ls hH hS hl hc hs
    refine lv_iload_n X.1 X.2.1 dX8_init__26 rfl (mz_at hl 2 rfl) ?_
    refine mz_aload_n X dX8_init__27 rfl (mz_at hl 0 rfl) ?_
    refine mz_getR X hH fl_RX8_22 dX8_init__28 hr (fun v1 hr => ?_)
    refine mz_alen (t := 15) X hH (by decide) dX8_init__31 hr (fun v2 hr => ?_)
    refine mz_icmp_ge X 60 dX8_init__32 (by decide) hr (fun hr => ?_) (fun hr => ?_)
    · exact mz_vret Y dX8_init__60 hH hS hc hs hr
    · refine mz_aload_n X dX8_init__35 rfl (mz_at hl 0 rfl) ?_
      refine mz_getR X hH fl_RX8_22 dX8_init__36 hr (fun v3 hr => ?_)
      refine lv_iload_n X.1 X.2.1 dX8_init__39 rfl (mz_at hl 2 rfl) ?_
      refine mz_kN X hH hS tyX6 rfl cl_5 tyX6_ok ⟨mz_tb 503 (by decide +kernel) rfl, mz_tb 505 (by decide +kernel) rfl, mz_tb 49 (by decide +kernel) rfl⟩ nw_5 dX8_init__40 hr hc hs (fun v4 h H cells slots dc ds hr hH hS hc hs => ?_)
      refine mz_dupR X dX8_init__43 ?_
      refine mz_aload_n X dX8_init__44 rfl (mz_at hl 1 rfl) ?_
      refine mz_getR X hH fl_RX8_22 dX8_init__45 hr (fun v5 hr => ?_)
      refine lv_iload_n X.1 X.2.1 dX8_init__48 rfl (mz_at hl 2 rfl) ?_
      refine mz_aald (t := 15) X hH (by decide) rfl dX8_init__49 hr (fun v6 hr => ?_)
      refine mz_kI X hH hS hl.1.1 [va_rf v6] [va_rf v4, .int x2, va_rf v3] hr (ct_X6_init_ l g h v4 v6) mb_RX8_33 im_X6_init_ rfl rfl (Nat.le_of_ble_eq_true rfl) ⟨Nat.le_of_ble_eq_true rfl, Nat.le_of_ble_eq_true rfl⟩ hc hs dX8_init__50 rfl (fun _ h H locs cells slots dc ds hr hH hS hc hs => ?_)
      refine mz_aast (t := 15) X hH hS (by decide) rfl rfl dX8_init__53 hr (fun h H locs hr hH hS => ?_)
      obtain ⟨v7, hv7, hr⟩ := mz_op_some hr
      have hv7 := Option.some.inj hv7
      refine mz_iinc (k := 2) X [(2, false, .int v7), (0, false, va_rf a0), (1, false, va_rf a1)] v7 dX8_init__54 hl rfl hv7 (by decide) rfl (fun ls hl => ?_)
      refine lv_goto (tgt := 26) X.1 X.2.1 dX8_init__57 (by decide) ?_
      exact ih h a0 a1 v7 _ _ hr H locs cells slots ls hH hS (mz_sub hl [1, 2, 0] rfl) hc hs
def fn_X8_init_ (h : mz_H) (a0 : (Option Nat)) (a1 : (Option Nat)) : mz_Res Unit :=
  mz_chk (a0).isSome <|
  mz_op (mz_fI h a1 7 0) fun v1 =>
  mz_op (mz_pF h a0 7 0 (Value.int v1)) fun h =>
  mz_op (mz_fR h a1 7 1) fun v2 =>
  mz_op (mz_len h v2 15) fun v3 =>
  mz_aN h 15 v3 (.inr (.inr (.inr (.inr (fun _ => none))))) fun v4 h =>
  mz_op (mz_pF h a0 7 1 (va_rf v4)) fun h =>
  fn_X8_init__b26 1001 h a0 a1 0
set_option maxHeartbeats 4000000 in
set_option maxRecDepth 100000 in
theorem pf_X8_init__b0 (r : Unit) (Y : mz_Y p g RX8 cX8_init_ 3 none "<init>" (mz_AF h0) s m args meth c) (h : mz_H) (a0 : (Option Nat)) (a1 : (Option Nat)) (dc ds : Nat) (hr : fn_X8_init_ h a0 a1 = some (r, hf, dc, ds)) : mz_Go l g p e s m args below meth c 3 65 DC DS h0 none hf 3 0 [(0, false, va_rf a0), (1, false, va_rf a1)] [] h dc ds := by
  unfold fn_X8_init_ at hr
  intro H locs cells slots ls hH hS hl hc hs
  have X := Y.1
  refine mz_aload_n X dX8_init__0 rfl (mz_at hl 0 rfl) ?_
  refine mz_oinit X hl.1.1 oi_RX8_3 (Nat.le_of_ble_eq_true rfl) ⟨Nat.le_of_ble_eq_true rfl, Nat.le_of_ble_eq_true rfl⟩ dX8_init__1 hr (fun hr => ?_)
  refine mz_aload_n X dX8_init__4 rfl (mz_at hl 0 rfl) ?_
  refine mz_aload_n X dX8_init__5 rfl (mz_at hl 1 rfl) ?_
  refine mz_getI X hH fl_RX8_9 dX8_init__6 hr (fun v1 hr => ?_)
  refine mz_putF X Y.2.2.2 hH hS fp_RX8_9 dX8_init__9 rfl rfl hr (fun h H locs hr hH hS => ?_)
  refine mz_aload_n X dX8_init__12 rfl (mz_at hl 0 rfl) ?_
  refine mz_aload_n X dX8_init__13 rfl (mz_at hl 1 rfl) ?_
  refine mz_getR X hH fl_RX8_22 dX8_init__14 hr (fun v2 hr => ?_)
  refine mz_alen (t := 15) X hH (by decide) dX8_init__17 hr (fun v3 hr => ?_)
  refine mz_kR (t := 15) X hH hS (by decide) rfl (by decide) (mz_tb 503 (by decide +kernel) rfl) dX8_init__18 hr hc hs (fun v4 h H cells slots dc ds hr hH hS hc hs => ?_)
  refine mz_putF X Y.2.2.2 hH hS fp_RX8_22 dX8_init__21 (mz_nra _ _).1 (mz_nra _ _).2 hr (fun h H locs hr hH hS => ?_)
  refine lv_iconst (v := 0) X.1 X.2.1 dX8_init__24 (by decide) ?_
  refine mz_istore_n X [(2, false, .int 0), (0, false, va_rf a0), (1, false, va_rf a1)] dX8_init__25 rfl hl (by decide) rfl (fun ls hl => ?_)
  exact pf_X8_init__b26 r Y 1001 h a0 a1 0 _ _ hr H locs cells slots ls hH hS (mz_sub hl [1, 2, 0] rfl) hc hs
set_option maxRecDepth 100000 in
theorem ct_X8_init_ (l : Launch) (g : mz_G) (h : mz_H) (a0 : (Option Nat)) (a1 : (Option Nat)) (r : Unit) (hf : mz_H) (k n : Nat) (hr : fn_X8_init_ h a0 a1 = some (r, hf, k, n)) : mz_C l g yX8_init_ cX8_init_ 3 none 3 65 [va_rf a0, va_rf a1] h none hf k n := by
  refine mz_met (as := [(false, va_rf a0), (false, va_rf a1)]) (plainFor_of_name (by decide)) (mz_c1 (mz_cat_rf _) (mz_c1 (mz_cat_rf _) mz_c0)) (Nat.le_of_ble_eq_true rfl) ?_
  intro p e s m args below meth c Y
  exact pf_X8_init__b0 r Y h a0 a1 _ _ hr
theorem dX8_slotAt_0 : decode cX8_slotAt 0 = .ok (.iload_n 1, 1) := by decide +kernel
theorem dX8_slotAt_1 : decode cX8_slotAt 1 = .ok (.ifCond .lt 21, 3) := by decide +kernel
theorem dX8_slotAt_4 : decode cX8_slotAt 4 = .ok (.iload_n 1, 1) := by decide +kernel
theorem dX8_slotAt_5 : decode cX8_slotAt 5 = .ok (.aload_n 0, 1) := by decide +kernel
theorem dX8_slotAt_6 : decode cX8_slotAt 6 = .ok (.getfield 22, 3) := by decide +kernel
theorem dX8_slotAt_9 : decode cX8_slotAt 9 = .ok (.arraylength, 1) := by decide +kernel
theorem dX8_slotAt_10 : decode cX8_slotAt 10 = .ok (.if_icmp .ge 12, 3) := by decide +kernel
theorem dX8_slotAt_13 : decode cX8_slotAt 13 = .ok (.aload_n 0, 1) := by decide +kernel
theorem dX8_slotAt_14 : decode cX8_slotAt 14 = .ok (.getfield 22, 3) := by decide +kernel
theorem dX8_slotAt_17 : decode cX8_slotAt 17 = .ok (.iload_n 1, 1) := by decide +kernel
theorem dX8_slotAt_18 : decode cX8_slotAt 18 = .ok (.aaload, 1) := by decide +kernel
theorem dX8_slotAt_19 : decode cX8_slotAt 19 = .ok (.goto 4, 3) := by decide +kernel
theorem dX8_slotAt_22 : decode cX8_slotAt 22 = .ok (.aconst_null, 1) := by decide +kernel
theorem dX8_slotAt_23 : decode cX8_slotAt 23 = .ok (.areturn, 1) := by decide +kernel
def fn_X8_slotAt (h : mz_H) (a0 : (Option Nat)) (x1 : Int32) : mz_Res (Option Nat) :=
  if x1 < 0 then
    mz_ret none h
  else
    mz_op (mz_fR h a0 7 1) fun v1 =>
    mz_op (mz_len h v1 15) fun v2 =>
    if v2 ≤ x1 then
      mz_ret none h
    else
      mz_op (mz_fR h a0 7 1) fun v3 =>
      mz_op (mz_aR h v3 15 x1) fun v4 =>
      mz_ret v4 h
set_option maxHeartbeats 4000000 in
set_option maxRecDepth 100000 in
theorem pf_X8_slotAt_b0 (r : (Option Nat)) (Y : mz_Y p g RX8 cX8_slotAt 2 (some (.object "MemberScanner$Slot")) "slotAt" (mz_AF h0) s m args meth c) (h : mz_H) (a0 : (Option Nat)) (x1 : Int32) (dc ds : Nat) (hr : fn_X8_slotAt h a0 x1 = some (r, hf, dc, ds)) : mz_Go l g p e s m args below meth c 0 0 DC DS h0 (some (va_rf r)) hf 2 0 [(0, false, va_rf a0), (1, false, .int x1)] [] h dc ds := by
  unfold fn_X8_slotAt at hr
  intro H locs cells slots ls hH hS hl hc hs
  have X := Y.1
  refine lv_iload_n X.1 X.2.1 dX8_slotAt_0 rfl (mz_at hl 1 rfl) ?_
  refine mz_if_lt X 22 dX8_slotAt_1 (by decide) hr (fun hr => ?_) (fun hr => ?_)
  · refine mz_null X dX8_slotAt_22 ?_
    exact mz_aret Y dX8_slotAt_23 hH hS hc hs hr
  · refine lv_iload_n X.1 X.2.1 dX8_slotAt_4 rfl (mz_at hl 1 rfl) ?_
    refine mz_aload_n X dX8_slotAt_5 rfl (mz_at hl 0 rfl) ?_
    refine mz_getR X hH fl_RX8_22 dX8_slotAt_6 hr (fun v1 hr => ?_)
    refine mz_alen (t := 15) X hH (by decide) dX8_slotAt_9 hr (fun v2 hr => ?_)
    refine mz_icmp_ge X 22 dX8_slotAt_10 (by decide) hr (fun hr => ?_) (fun hr => ?_)
    · refine mz_null X dX8_slotAt_22 ?_
      exact mz_aret Y dX8_slotAt_23 hH hS hc hs hr
    · refine mz_aload_n X dX8_slotAt_13 rfl (mz_at hl 0 rfl) ?_
      refine mz_getR X hH fl_RX8_22 dX8_slotAt_14 hr (fun v3 hr => ?_)
      refine lv_iload_n X.1 X.2.1 dX8_slotAt_17 rfl (mz_at hl 1 rfl) ?_
      refine mz_aald (t := 15) X hH (by decide) rfl dX8_slotAt_18 hr (fun v4 hr => ?_)
      refine lv_goto (tgt := 23) X.1 X.2.1 dX8_slotAt_19 (by decide) ?_
      exact mz_aret Y dX8_slotAt_23 hH hS hc hs hr
set_option maxRecDepth 100000 in
theorem ct_X8_slotAt (l : Launch) (g : mz_G) (h : mz_H) (a0 : (Option Nat)) (x1 : Int32) (r : (Option Nat)) (hf : mz_H) (k n : Nat) (hr : fn_X8_slotAt h a0 x1 = some (r, hf, k, n)) : mz_C l g yX8_slotAt cX8_slotAt 2 (some (.object "MemberScanner$Slot")) 0 0 [va_rf a0, .int x1] h (some (va_rf r)) hf k n := by
  refine mz_met (as := [(false, va_rf a0), (false, .int x1)]) (plainFor_of_name (by decide)) (mz_c1 (mz_cat_rf _) (mz_c1 rfl mz_c0)) (Nat.le_of_ble_eq_true rfl) ?_
  intro p e s m args below meth c Y
  exact pf_X8_slotAt_b0 r Y h a0 x1 _ _ hr
theorem dX8_slotNumber_0 : decode cX8_slotNumber 0 = .ok (.iconst 0, 1) := by decide +kernel
theorem dX8_slotNumber_1 : decode cX8_slotNumber 1 = .ok (.istore_n 2, 1) := by decide +kernel
theorem dX8_slotNumber_2 : decode cX8_slotNumber 2 = .ok (.iload_n 2, 1) := by decide +kernel
theorem dX8_slotNumber_3 : decode cX8_slotNumber 3 = .ok (.aload_n 0, 1) := by decide +kernel
theorem dX8_slotNumber_4 : decode cX8_slotNumber 4 = .ok (.getfield 22, 3) := by decide +kernel
theorem dX8_slotNumber_7 : decode cX8_slotNumber 7 = .ok (.arraylength, 1) := by decide +kernel
theorem dX8_slotNumber_8 : decode cX8_slotNumber 8 = .ok (.if_icmp .ge 24, 3) := by decide +kernel
theorem dX8_slotNumber_11 : decode cX8_slotNumber 11 = .ok (.aload_n 0, 1) := by decide +kernel
theorem dX8_slotNumber_12 : decode cX8_slotNumber 12 = .ok (.getfield 22, 3) := by decide +kernel
theorem dX8_slotNumber_15 : decode cX8_slotNumber 15 = .ok (.iload_n 2, 1) := by decide +kernel
theorem dX8_slotNumber_16 : decode cX8_slotNumber 16 = .ok (.aaload, 1) := by decide +kernel
theorem dX8_slotNumber_17 : decode cX8_slotNumber 17 = .ok (.getfield 36, 3) := by decide +kernel
theorem dX8_slotNumber_20 : decode cX8_slotNumber 20 = .ok (.iload_n 1, 1) := by decide +kernel
theorem dX8_slotNumber_21 : decode cX8_slotNumber 21 = .ok (.if_icmp .ne 5, 3) := by decide +kernel
theorem dX8_slotNumber_24 : decode cX8_slotNumber 24 = .ok (.iload_n 2, 1) := by decide +kernel
theorem dX8_slotNumber_25 : decode cX8_slotNumber 25 = .ok (.ireturn, 1) := by decide +kernel
theorem dX8_slotNumber_26 : decode cX8_slotNumber 26 = .ok (.iinc 2 1, 3) := by decide +kernel
theorem dX8_slotNumber_29 : decode cX8_slotNumber 29 = .ok (.goto (-27), 3) := by decide +kernel
theorem dX8_slotNumber_32 : decode cX8_slotNumber 32 = .ok (.bipush (-9), 2) := by decide +kernel
theorem dX8_slotNumber_34 : decode cX8_slotNumber 34 = .ok (.ireturn, 1) := by decide +kernel
def fn_X8_slotNumber_b2 : Nat → mz_H → (Option Nat) → Int32 → Int32 → mz_Res Int32
  | 0, _, _, _, _ => none
  | n + 1, h, a0, x1, x2 =>
    mz_op (mz_fR h a0 7 1) fun v1 =>
    mz_op (mz_len h v1 15) fun v2 =>
    if v2 ≤ x2 then
      mz_ret (-9) h
    else
      mz_op (mz_fR h a0 7 1) fun v3 =>
      mz_op (mz_aR h v3 15 x2) fun v4 =>
      mz_op (mz_fI h v4 5 0) fun v5 =>
      if v5 = x1 then
        mz_ret x2 h
      else
        mz_op (some (x2 + 1)) fun v6 =>
        fn_X8_slotNumber_b2 n h a0 x1 v6
set_option maxHeartbeats 4000000 in
set_option maxRecDepth 100000 in
theorem pf_X8_slotNumber_b2 (r : Int32) (Y : mz_Y p g RX8 cX8_slotNumber 3 (some .int) "slotNumber" (mz_AF h0) s m args meth c) : ∀ (n : Nat) (h : mz_H) (a0 : (Option Nat)) (x1 : Int32) (x2 : Int32) (dc ds : Nat), fn_X8_slotNumber_b2 n h a0 x1 x2 = some (r, hf, dc, ds) → mz_Go l g p e s m args below meth c 0 0 DC DS h0 (some (Value.int r)) hf 3 2 [(0, false, va_rf a0), (1, false, .int x1), (2, false, .int x2)] [] h dc ds := by
  have X := Y.1
  intro n
  induction n with
  | zero => intro h a0 x1 x2 dc ds hr; simp [fn_X8_slotNumber_b2] at hr
  | succ n ih =>
    intro h a0 x1 x2 dc ds hr
    rw [fn_X8_slotNumber_b2] at hr
    intro H locs cells slots ls hH hS hl hc hs
    refine lv_iload_n X.1 X.2.1 dX8_slotNumber_2 rfl (mz_at hl 2 rfl) ?_
    refine mz_aload_n X dX8_slotNumber_3 rfl (mz_at hl 0 rfl) ?_
    refine mz_getR X hH fl_RX8_22 dX8_slotNumber_4 hr (fun v1 hr => ?_)
    refine mz_alen (t := 15) X hH (by decide) dX8_slotNumber_7 hr (fun v2 hr => ?_)
    refine mz_icmp_ge X 32 dX8_slotNumber_8 (by decide) hr (fun hr => ?_) (fun hr => ?_)
    · refine lv_bipush (v := (-9)) X.1 X.2.1 dX8_slotNumber_32 (by decide) ?_
      exact mz_iret Y dX8_slotNumber_34 hH hS hc hs hr
    · refine mz_aload_n X dX8_slotNumber_11 rfl (mz_at hl 0 rfl) ?_
      refine mz_getR X hH fl_RX8_22 dX8_slotNumber_12 hr (fun v3 hr => ?_)
      refine lv_iload_n X.1 X.2.1 dX8_slotNumber_15 rfl (mz_at hl 2 rfl) ?_
      refine mz_aald (t := 15) X hH (by decide) rfl dX8_slotNumber_16 hr (fun v4 hr => ?_)
      refine mz_getI X hH fl_RX8_36 dX8_slotNumber_17 hr (fun v5 hr => ?_)
      refine lv_iload_n X.1 X.2.1 dX8_slotNumber_20 rfl (mz_at hl 1 rfl) ?_
      refine mz_icmp_ne X 26 dX8_slotNumber_21 (by decide) hr (fun hr => ?_) (fun hr => ?_)
      · obtain ⟨v6, hv6, hr⟩ := mz_op_some hr
        have hv6 := Option.some.inj hv6
        refine mz_iinc (k := 2) X [(2, false, .int v6), (0, false, va_rf a0), (1, false, .int x1)] v6 dX8_slotNumber_26 hl rfl hv6 (by decide) rfl (fun ls hl => ?_)
        refine lv_goto (tgt := 2) X.1 X.2.1 dX8_slotNumber_29 (by decide) ?_
        exact ih h a0 x1 v6 _ _ hr H locs cells slots ls hH hS (mz_sub hl [1, 2, 0] rfl) hc hs
      · refine lv_iload_n X.1 X.2.1 dX8_slotNumber_24 rfl (mz_at hl 2 rfl) ?_
        exact mz_iret Y dX8_slotNumber_25 hH hS hc hs hr
def fn_X8_slotNumber (h : mz_H) (a0 : (Option Nat)) (x1 : Int32) : mz_Res Int32 :=
  fn_X8_slotNumber_b2 1001 h a0 x1 0
set_option maxHeartbeats 4000000 in
set_option maxRecDepth 100000 in
theorem pf_X8_slotNumber_b0 (r : Int32) (Y : mz_Y p g RX8 cX8_slotNumber 3 (some .int) "slotNumber" (mz_AF h0) s m args meth c) (h : mz_H) (a0 : (Option Nat)) (x1 : Int32) (dc ds : Nat) (hr : fn_X8_slotNumber h a0 x1 = some (r, hf, dc, ds)) : mz_Go l g p e s m args below meth c 0 0 DC DS h0 (some (Value.int r)) hf 3 0 [(0, false, va_rf a0), (1, false, .int x1)] [] h dc ds := by
  unfold fn_X8_slotNumber at hr
  intro H locs cells slots ls hH hS hl hc hs
  have X := Y.1
  refine lv_iconst (v := 0) X.1 X.2.1 dX8_slotNumber_0 (by decide) ?_
  refine mz_istore_n X [(2, false, .int 0), (0, false, va_rf a0), (1, false, .int x1)] dX8_slotNumber_1 rfl hl (by decide) rfl (fun ls hl => ?_)
  exact pf_X8_slotNumber_b2 r Y 1001 h a0 x1 0 _ _ hr H locs cells slots ls hH hS (mz_sub hl [1, 2, 0] rfl) hc hs
set_option maxRecDepth 100000 in
theorem ct_X8_slotNumber (l : Launch) (g : mz_G) (h : mz_H) (a0 : (Option Nat)) (x1 : Int32) (r : Int32) (hf : mz_H) (k n : Nat) (hr : fn_X8_slotNumber h a0 x1 = some (r, hf, k, n)) : mz_C l g yX8_slotNumber cX8_slotNumber 3 (some .int) 0 0 [va_rf a0, .int x1] h (some (Value.int r)) hf k n := by
  refine mz_met (as := [(false, va_rf a0), (false, .int x1)]) (plainFor_of_name (by decide)) (mz_c1 (mz_cat_rf _) (mz_c1 rfl mz_c0)) (Nat.le_of_ble_eq_true rfl) ?_
  intro p e s m args below meth c Y
  exact pf_X8_slotNumber_b0 r Y h a0 x1 _ _ hr
theorem dX8_slotNamed_0 : decode cX8_slotNamed 0 = .ok (.aload_n 0, 1) := by decide +kernel
theorem dX8_slotNamed_1 : decode cX8_slotNamed 1 = .ok (.aload_n 0, 1) := by decide +kernel
theorem dX8_slotNamed_2 : decode cX8_slotNamed 2 = .ok (.iload_n 1, 1) := by decide +kernel
theorem dX8_slotNamed_3 : decode cX8_slotNamed 3 = .ok (.invokevirtual 39, 3) := by decide +kernel
theorem dX8_slotNamed_6 : decode cX8_slotNamed 6 = .ok (.invokevirtual 43, 3) := by decide +kernel
theorem dX8_slotNamed_9 : decode cX8_slotNamed 9 = .ok (.areturn, 1) := by decide +kernel
def fn_X8_slotNamed (h : mz_H) (a0 : (Option Nat)) (x1 : Int32) : mz_Res (Option Nat) :=
  mz_chk (mz_is h a0 7) <| mz_call (fn_X8_slotNumber h a0 x1) fun v1 h =>
  mz_chk (mz_is h a0 7) <| mz_call (fn_X8_slotAt h a0 v1) fun v2 h =>
  mz_ret v2 h
set_option maxHeartbeats 4000000 in
set_option maxRecDepth 100000 in
theorem pf_X8_slotNamed_b0 (r : (Option Nat)) (Y : mz_Y p g RX8 cX8_slotNamed 2 (some (.object "MemberScanner$Slot")) "slotNamed" (mz_AF h0) s m args meth c) (h : mz_H) (a0 : (Option Nat)) (x1 : Int32) (dc ds : Nat) (hr : fn_X8_slotNamed h a0 x1 = some (r, hf, dc, ds)) : mz_Go l g p e s m args below meth c 1 22 DC DS h0 (some (va_rf r)) hf 2 0 [(0, false, va_rf a0), (1, false, .int x1)] [] h dc ds := by
  unfold fn_X8_slotNamed at hr
  intro H locs cells slots ls hH hS hl hc hs
  have X := Y.1
  refine mz_aload_n X dX8_slotNamed_0 rfl (mz_at hl 0 rfl) ?_
  refine mz_aload_n X dX8_slotNamed_1 rfl (mz_at hl 0 rfl) ?_
  refine lv_iload_n X.1 X.2.1 dX8_slotNamed_2 rfl (mz_at hl 1 rfl) ?_
  refine mz_kV Value.int X hH hS hl.1.1 [.int x1] [va_rf a0] hr (ct_X8_slotNumber l g h a0 x1) mb_RX8_39 rfl im_X8_slotNumber rfl (Nat.le_of_ble_eq_true rfl) ⟨Nat.le_of_ble_eq_true rfl, Nat.le_of_ble_eq_true rfl⟩ hc hs dX8_slotNamed_3 rfl (fun v1 h H locs cells slots dc ds hr hH hS hc hs => ?_)
  refine mz_kV va_rf X hH hS hl.1.1 [.int v1] [] hr (ct_X8_slotAt l g h a0 v1) mb_RX8_43 rfl im_X8_slotAt rfl (Nat.le_of_ble_eq_true rfl) ⟨Nat.le_of_ble_eq_true rfl, Nat.le_of_ble_eq_true rfl⟩ hc hs dX8_slotNamed_6 rfl (fun v2 h H locs cells slots dc ds hr hH hS hc hs => ?_)
  exact mz_aret Y dX8_slotNamed_9 hH hS hc hs hr
set_option maxRecDepth 100000 in
theorem ct_X8_slotNamed (l : Launch) (g : mz_G) (h : mz_H) (a0 : (Option Nat)) (x1 : Int32) (r : (Option Nat)) (hf : mz_H) (k n : Nat) (hr : fn_X8_slotNamed h a0 x1 = some (r, hf, k, n)) : mz_C l g yX8_slotNamed cX8_slotNamed 2 (some (.object "MemberScanner$Slot")) 1 22 [va_rf a0, .int x1] h (some (va_rf r)) hf k n := by
  refine mz_met (as := [(false, va_rf a0), (false, .int x1)]) (plainFor_of_name (by decide)) (mz_c1 (mz_cat_rf _) (mz_c1 rfl mz_c0)) (Nat.le_of_ble_eq_true rfl) ?_
  intro p e s m args below meth c Y
  exact pf_X8_slotNamed_b0 r Y h a0 x1 _ _ hr
theorem dX8_hasKey_0 : decode cX8_hasKey 0 = .ok (.iconst 0, 1) := by decide +kernel
theorem dX8_hasKey_1 : decode cX8_hasKey 1 = .ok (.istore_n 3, 1) := by decide +kernel
theorem dX8_hasKey_2 : decode cX8_hasKey 2 = .ok (.iload_n 3, 1) := by decide +kernel
theorem dX8_hasKey_3 : decode cX8_hasKey 3 = .ok (.aload_n 0, 1) := by decide +kernel
theorem dX8_hasKey_4 : decode cX8_hasKey 4 = .ok (.getfield 22, 3) := by decide +kernel
theorem dX8_hasKey_7 : decode cX8_hasKey 7 = .ok (.arraylength, 1) := by decide +kernel
theorem dX8_hasKey_8 : decode cX8_hasKey 8 = .ok (.if_icmp .ge 71, 3) := by decide +kernel
theorem dX8_hasKey_11 : decode cX8_hasKey 11 = .ok (.aload_n 0, 1) := by decide +kernel
theorem dX8_hasKey_12 : decode cX8_hasKey 12 = .ok (.getfield 22, 3) := by decide +kernel
theorem dX8_hasKey_15 : decode cX8_hasKey 15 = .ok (.iload_n 3, 1) := by decide +kernel
theorem dX8_hasKey_16 : decode cX8_hasKey 16 = .ok (.aaload, 1) := by decide +kernel
theorem dX8_hasKey_17 : decode cX8_hasKey 17 = .ok (.astore 4, 2) := by decide +kernel
theorem dX8_hasKey_19 : decode cX8_hasKey 19 = .ok (.aload 4, 2) := by decide +kernel
theorem dX8_hasKey_21 : decode cX8_hasKey 21 = .ok (.getfield 47, 3) := by decide +kernel
theorem dX8_hasKey_24 : decode cX8_hasKey 24 = .ok (.iconst 4, 1) := by decide +kernel
theorem dX8_hasKey_25 : decode cX8_hasKey 25 = .ok (.iand, 1) := by decide +kernel
theorem dX8_hasKey_26 : decode cX8_hasKey 26 = .ok (.ifCond .eq 25, 3) := by decide +kernel
theorem dX8_hasKey_29 : decode cX8_hasKey 29 = .ok (.aload 4, 2) := by decide +kernel
theorem dX8_hasKey_31 : decode cX8_hasKey 31 = .ok (.getfield 50, 3) := by decide +kernel
theorem dX8_hasKey_34 : decode cX8_hasKey 34 = .ok (.ifCond .ne 17, 3) := by decide +kernel
theorem dX8_hasKey_37 : decode cX8_hasKey 37 = .ok (.aload 4, 2) := by decide +kernel
theorem dX8_hasKey_39 : decode cX8_hasKey 39 = .ok (.getfield 53, 3) := by decide +kernel
theorem dX8_hasKey_42 : decode cX8_hasKey 42 = .ok (.bipush 8, 2) := by decide +kernel
theorem dX8_hasKey_44 : decode cX8_hasKey 44 = .ok (.if_icmp .eq 7, 3) := by decide +kernel
theorem dX8_hasKey_47 : decode cX8_hasKey 47 = .ok (.iconst 1, 1) := by decide +kernel
theorem dX8_hasKey_48 : decode cX8_hasKey 48 = .ok (.goto 4, 3) := by decide +kernel
theorem dX8_hasKey_51 : decode cX8_hasKey 51 = .ok (.iconst 0, 1) := by decide +kernel
theorem dX8_hasKey_52 : decode cX8_hasKey 52 = .ok (.istore 5, 2) := by decide +kernel
theorem dX8_hasKey_54 : decode cX8_hasKey 54 = .ok (.iload 5, 2) := by decide +kernel
theorem dX8_hasKey_56 : decode cX8_hasKey 56 = .ok (.ifCond .eq 17, 3) := by decide +kernel
theorem dX8_hasKey_59 : decode cX8_hasKey 59 = .ok (.aload 4, 2) := by decide +kernel
theorem dX8_hasKey_61 : decode cX8_hasKey 61 = .ok (.iconst 0, 1) := by decide +kernel
theorem dX8_hasKey_62 : decode cX8_hasKey 62 = .ok (.iconst 0, 1) := by decide +kernel
theorem dX8_hasKey_63 : decode cX8_hasKey 63 = .ok (.invokevirtual 56, 3) := by decide +kernel
theorem dX8_hasKey_66 : decode cX8_hasKey 66 = .ok (.lload_n 1, 1) := by decide +kernel
theorem dX8_hasKey_67 : decode cX8_hasKey 67 = .ok (.lcmp, 1) := by decide +kernel
theorem dX8_hasKey_68 : decode cX8_hasKey 68 = .ok (.ifCond .ne 5, 3) := by decide +kernel
theorem dX8_hasKey_71 : decode cX8_hasKey 71 = .ok (.iconst 1, 1) := by decide +kernel
theorem dX8_hasKey_72 : decode cX8_hasKey 72 = .ok (.ireturn, 1) := by decide +kernel
theorem dX8_hasKey_73 : decode cX8_hasKey 73 = .ok (.iinc 3 1, 3) := by decide +kernel
theorem dX8_hasKey_76 : decode cX8_hasKey 76 = .ok (.goto (-74), 3) := by decide +kernel
theorem dX8_hasKey_79 : decode cX8_hasKey 79 = .ok (.iconst 0, 1) := by decide +kernel
theorem dX8_hasKey_80 : decode cX8_hasKey 80 = .ok (.ireturn, 1) := by decide +kernel
def fn_X8_hasKey_b73 (rc2 : mz_H → (Option Nat) → Int64 → Int32 → mz_Res Int32) (h : mz_H) (a0 : (Option Nat)) (j1 : Int64) (x3 : Int32) : mz_Res Int32 :=
  mz_op (some (x3 + 1)) fun v1 =>
  rc2 h a0 j1 v1
set_option maxHeartbeats 4000000 in
set_option maxRecDepth 100000 in
theorem pf_X8_hasKey_b73 (r : Int32) (Y : mz_Y p g RX8 cX8_hasKey 6 (some .boolean) "hasKey" (mz_AF h0) s m args meth c) {rc2 : mz_H → (Option Nat) → Int64 → Int32 → mz_Res Int32} (hrc2 : ∀ (h : mz_H) (a0 : (Option Nat)) (j1 : Int64) (x3 : Int32) (dc ds : Nat), rc2 h a0 j1 x3 = some (r, hf, dc, ds) → mz_Go l g p e s m args below meth c 2 45 DC DS h0 (some (Value.int r)) hf 6 2 [(0, false, va_rf a0), (1, true, .long j1), (3, false, .int x3)] [] h dc ds) (h : mz_H) (a0 : (Option Nat)) (j1 : Int64) (x3 : Int32) (dc ds : Nat) (hr : fn_X8_hasKey_b73 rc2 h a0 j1 x3 = some (r, hf, dc, ds)) : mz_Go l g p e s m args below meth c 2 45 DC DS h0 (some (Value.int r)) hf 6 73 [(0, false, va_rf a0), (1, true, .long j1), (3, false, .int x3)] [] h dc ds := by
  unfold fn_X8_hasKey_b73 at hr
  intro H locs cells slots ls hH hS hl hc hs
  have X := Y.1
  obtain ⟨v1, hv1, hr⟩ := mz_op_some hr
  have hv1 := Option.some.inj hv1
  refine mz_iinc (k := 2) X [(3, false, .int v1), (0, false, va_rf a0), (1, true, .long j1)] v1 dX8_hasKey_73 hl rfl hv1 (by decide) rfl (fun ls hl => ?_)
  refine lv_goto (tgt := 2) X.1 X.2.1 dX8_hasKey_76 (by decide) ?_
  exact hrc2 h a0 j1 v1 _ _ hr H locs cells slots ls hH hS (mz_sub hl [1, 2, 0] rfl) hc hs
def fn_X8_hasKey_b52 (rc2 : mz_H → (Option Nat) → Int64 → Int32 → mz_Res Int32) (h : mz_H) (a0 : (Option Nat)) (j1 : Int64) (x3 : Int32) (a4 : (Option Nat)) (s0 : Int32) : mz_Res Int32 :=
  if s0 = 0 then
    fn_X8_hasKey_b73 rc2 h a0 j1 x3
  else
    mz_chk (mz_is h a4 5) <| mz_call (fn_X6_cellAt h a4 0 0) fun v1 h =>
    if (lg_cmp v1 j1) = 0 then
      mz_chk ((1 : Int32) &&& 1 == 1) (mz_ret 1 h)
    else
      fn_X8_hasKey_b73 rc2 h a0 j1 x3
set_option maxHeartbeats 4000000 in
set_option maxRecDepth 100000 in
theorem pf_X8_hasKey_b52 (r : Int32) (Y : mz_Y p g RX8 cX8_hasKey 6 (some .boolean) "hasKey" (mz_AF h0) s m args meth c) {rc2 : mz_H → (Option Nat) → Int64 → Int32 → mz_Res Int32} (hrc2 : ∀ (h : mz_H) (a0 : (Option Nat)) (j1 : Int64) (x3 : Int32) (dc ds : Nat), rc2 h a0 j1 x3 = some (r, hf, dc, ds) → mz_Go l g p e s m args below meth c 2 45 DC DS h0 (some (Value.int r)) hf 6 2 [(0, false, va_rf a0), (1, true, .long j1), (3, false, .int x3)] [] h dc ds) (h : mz_H) (a0 : (Option Nat)) (j1 : Int64) (x3 : Int32) (a4 : (Option Nat)) (s0 : Int32) (dc ds : Nat) (hr : fn_X8_hasKey_b52 rc2 h a0 j1 x3 a4 s0 = some (r, hf, dc, ds)) : mz_Go l g p e s m args below meth c 2 45 DC DS h0 (some (Value.int r)) hf 6 52 [(0, false, va_rf a0), (1, true, .long j1), (3, false, .int x3), (4, false, va_rf a4)] [.int s0] h dc ds := by
  unfold fn_X8_hasKey_b52 at hr
  intro H locs cells slots ls hH hS hl hc hs
  have X := Y.1
  refine mz_istore X [(5, false, .int s0), (0, false, va_rf a0), (1, true, .long j1), (3, false, .int x3), (4, false, va_rf a4)] dX8_hasKey_52 hl (by decide) rfl (fun ls hl => ?_)
  refine lv_iload X.1 X.2.1 dX8_hasKey_54 (mz_at hl 0 rfl) ?_
  refine mz_if_eq X 73 dX8_hasKey_56 (by decide) hr (fun hr => ?_) (fun hr => ?_)
  · exact pf_X8_hasKey_b73 r Y hrc2 h a0 j1 x3 _ _ hr H locs cells slots ls hH hS (mz_sub hl [1, 2, 3] rfl) hc hs
  · refine mz_aload X dX8_hasKey_59 (mz_at hl 4 rfl) ?_
    refine lv_iconst (v := 0) X.1 X.2.1 dX8_hasKey_61 (by decide) ?_
    refine lv_iconst (v := 0) X.1 X.2.1 dX8_hasKey_62 (by decide) ?_
    refine mz_kV Value.long X hH hS hl.1.1 [.int 0, .int 0] [] hr (ct_X6_cellAt l g h a4 0 0) mb_RX8_56 rfl im_X6_cellAt rfl (Nat.le_of_ble_eq_true rfl) ⟨Nat.le_of_ble_eq_true rfl, Nat.le_of_ble_eq_true rfl⟩ hc hs dX8_hasKey_63 rfl (fun v1 h H locs cells slots dc ds hr hH hS hc hs => ?_)
    refine lv_lload_n X.1 X.2.1 dX8_hasKey_66 rfl (mz_at hl 2 rfl) ?_
    refine W.lcmp X.1 X.2.1 dX8_hasKey_67 ?_
    refine mz_if_ne X 73 dX8_hasKey_68 (by decide) hr (fun hr => ?_) (fun hr => ?_)
    · exact pf_X8_hasKey_b73 r Y hrc2 h a0 j1 x3 _ _ hr H locs cells slots ls hH hS (mz_sub hl [1, 2, 3] rfl) hc hs
    · refine lv_iconst (v := 1) X.1 X.2.1 dX8_hasKey_71 (by decide) ?_
      exact mz_zret Y dX8_hasKey_72 hH hS hc hs hr
def fn_X8_hasKey_b51 (rc2 : mz_H → (Option Nat) → Int64 → Int32 → mz_Res Int32) (h : mz_H) (a0 : (Option Nat)) (j1 : Int64) (x3 : Int32) (a4 : (Option Nat)) : mz_Res Int32 :=
  fn_X8_hasKey_b52 rc2 h a0 j1 x3 a4 0
set_option maxHeartbeats 4000000 in
set_option maxRecDepth 100000 in
theorem pf_X8_hasKey_b51 (r : Int32) (Y : mz_Y p g RX8 cX8_hasKey 6 (some .boolean) "hasKey" (mz_AF h0) s m args meth c) {rc2 : mz_H → (Option Nat) → Int64 → Int32 → mz_Res Int32} (hrc2 : ∀ (h : mz_H) (a0 : (Option Nat)) (j1 : Int64) (x3 : Int32) (dc ds : Nat), rc2 h a0 j1 x3 = some (r, hf, dc, ds) → mz_Go l g p e s m args below meth c 2 45 DC DS h0 (some (Value.int r)) hf 6 2 [(0, false, va_rf a0), (1, true, .long j1), (3, false, .int x3)] [] h dc ds) (h : mz_H) (a0 : (Option Nat)) (j1 : Int64) (x3 : Int32) (a4 : (Option Nat)) (dc ds : Nat) (hr : fn_X8_hasKey_b51 rc2 h a0 j1 x3 a4 = some (r, hf, dc, ds)) : mz_Go l g p e s m args below meth c 2 45 DC DS h0 (some (Value.int r)) hf 6 51 [(0, false, va_rf a0), (1, true, .long j1), (3, false, .int x3), (4, false, va_rf a4)] [] h dc ds := by
  unfold fn_X8_hasKey_b51 at hr
  intro H locs cells slots ls hH hS hl hc hs
  have X := Y.1
  refine lv_iconst (v := 0) X.1 X.2.1 dX8_hasKey_51 (by decide) ?_
  exact pf_X8_hasKey_b52 r Y hrc2 h a0 j1 x3 a4 0 _ _ hr H locs cells slots ls hH hS (mz_sub hl [0, 1, 2, 3] rfl) hc hs
def fn_X8_hasKey_b2 : Nat → mz_H → (Option Nat) → Int64 → Int32 → mz_Res Int32
  | 0, _, _, _, _ => none
  | n + 1, h, a0, j1, x3 =>
    mz_op (mz_fR h a0 7 1) fun v1 =>
    mz_op (mz_len h v1 15) fun v2 =>
    if v2 ≤ x3 then
      mz_chk ((0 : Int32) &&& 1 == 0) (mz_ret 0 h)
    else
      mz_op (mz_fR h a0 7 1) fun v3 =>
      mz_op (mz_aR h v3 15 x3) fun v4 =>
      mz_op (mz_fI h v4 5 3) fun v5 =>
      if (v5 &&& 4) = 0 then
        fn_X8_hasKey_b51 (fn_X8_hasKey_b2 n) h a0 j1 x3 v4
      else
        mz_op (mz_fI h v4 5 2) fun v6 =>
        if v6 = 0 then
          mz_op (mz_fI h v4 5 1) fun v7 =>
          if v7 = 8 then
            fn_X8_hasKey_b51 (fn_X8_hasKey_b2 n) h a0 j1 x3 v4
          else
            fn_X8_hasKey_b52 (fn_X8_hasKey_b2 n) h a0 j1 x3 v4 1
        else
          fn_X8_hasKey_b51 (fn_X8_hasKey_b2 n) h a0 j1 x3 v4
set_option maxHeartbeats 4000000 in
set_option maxRecDepth 100000 in
theorem pf_X8_hasKey_b2 (r : Int32) (Y : mz_Y p g RX8 cX8_hasKey 6 (some .boolean) "hasKey" (mz_AF h0) s m args meth c) : ∀ (n : Nat) (h : mz_H) (a0 : (Option Nat)) (j1 : Int64) (x3 : Int32) (dc ds : Nat), fn_X8_hasKey_b2 n h a0 j1 x3 = some (r, hf, dc, ds) → mz_Go l g p e s m args below meth c 2 45 DC DS h0 (some (Value.int r)) hf 6 2 [(0, false, va_rf a0), (1, true, .long j1), (3, false, .int x3)] [] h dc ds := by
  have X := Y.1
  intro n
  induction n with
  | zero => intro h a0 j1 x3 dc ds hr; simp [fn_X8_hasKey_b2] at hr
  | succ n ih =>
    intro h a0 j1 x3 dc ds hr
    rw [fn_X8_hasKey_b2] at hr
    intro H locs cells slots ls hH hS hl hc hs
    refine lv_iload_n X.1 X.2.1 dX8_hasKey_2 rfl (mz_at hl 2 rfl) ?_
    refine mz_aload_n X dX8_hasKey_3 rfl (mz_at hl 0 rfl) ?_
    refine mz_getR X hH fl_RX8_22 dX8_hasKey_4 hr (fun v1 hr => ?_)
    refine mz_alen (t := 15) X hH (by decide) dX8_hasKey_7 hr (fun v2 hr => ?_)
    refine mz_icmp_ge X 79 dX8_hasKey_8 (by decide) hr (fun hr => ?_) (fun hr => ?_)
    · refine lv_iconst (v := 0) X.1 X.2.1 dX8_hasKey_79 (by decide) ?_
      exact mz_zret Y dX8_hasKey_80 hH hS hc hs hr
    · refine mz_aload_n X dX8_hasKey_11 rfl (mz_at hl 0 rfl) ?_
      refine mz_getR X hH fl_RX8_22 dX8_hasKey_12 hr (fun v3 hr => ?_)
      refine lv_iload_n X.1 X.2.1 dX8_hasKey_15 rfl (mz_at hl 2 rfl) ?_
      refine mz_aald (t := 15) X hH (by decide) rfl dX8_hasKey_16 hr (fun v4 hr => ?_)
      refine mz_astore X [(4, false, va_rf v4), (0, false, va_rf a0), (1, true, .long j1), (3, false, .int x3)] dX8_hasKey_17 hl (by decide) rfl (fun ls hl => ?_)
      refine mz_aload X dX8_hasKey_19 (mz_at hl 0 rfl) ?_
      refine mz_getI X hH fl_RX8_47 dX8_hasKey_21 hr (fun v5 hr => ?_)
      refine lv_iconst (v := 4) X.1 X.2.1 dX8_hasKey_24 (by decide) ?_
      refine lv_iand X.1 X.2.1 dX8_hasKey_25 ?_
      refine mz_if_eq X 51 dX8_hasKey_26 (by decide) hr (fun hr => ?_) (fun hr => ?_)
      · exact pf_X8_hasKey_b51 r Y ih h a0 j1 x3 v4 _ _ hr H locs cells slots ls hH hS (mz_sub hl [1, 2, 3, 0] rfl) hc hs
      · refine mz_aload X dX8_hasKey_29 (mz_at hl 0 rfl) ?_
        refine mz_getI X hH fl_RX8_50 dX8_hasKey_31 hr (fun v6 hr => ?_)
        refine mz_if_ne X 51 dX8_hasKey_34 (by decide) hr (fun hr => ?_) (fun hr => ?_)
        · exact pf_X8_hasKey_b51 r Y ih h a0 j1 x3 v4 _ _ hr H locs cells slots ls hH hS (mz_sub hl [1, 2, 3, 0] rfl) hc hs
        · refine mz_aload X dX8_hasKey_37 (mz_at hl 0 rfl) ?_
          refine mz_getI X hH fl_RX8_53 dX8_hasKey_39 hr (fun v7 hr => ?_)
          refine lv_bipush (v := 8) X.1 X.2.1 dX8_hasKey_42 (by decide) ?_
          refine mz_icmp_eq X 51 dX8_hasKey_44 (by decide) hr (fun hr => ?_) (fun hr => ?_)
          · exact pf_X8_hasKey_b51 r Y ih h a0 j1 x3 v4 _ _ hr H locs cells slots ls hH hS (mz_sub hl [1, 2, 3, 0] rfl) hc hs
          · refine lv_iconst (v := 1) X.1 X.2.1 dX8_hasKey_47 (by decide) ?_
            refine lv_goto (tgt := 52) X.1 X.2.1 dX8_hasKey_48 (by decide) ?_
            exact pf_X8_hasKey_b52 r Y ih h a0 j1 x3 v4 1 _ _ hr H locs cells slots ls hH hS (mz_sub hl [1, 2, 3, 0] rfl) hc hs
def fn_X8_hasKey (h : mz_H) (a0 : (Option Nat)) (j1 : Int64) : mz_Res Int32 :=
  fn_X8_hasKey_b2 1001 h a0 j1 0
set_option maxHeartbeats 4000000 in
set_option maxRecDepth 100000 in
theorem pf_X8_hasKey_b0 (r : Int32) (Y : mz_Y p g RX8 cX8_hasKey 6 (some .boolean) "hasKey" (mz_AF h0) s m args meth c) (h : mz_H) (a0 : (Option Nat)) (j1 : Int64) (dc ds : Nat) (hr : fn_X8_hasKey h a0 j1 = some (r, hf, dc, ds)) : mz_Go l g p e s m args below meth c 2 45 DC DS h0 (some (Value.int r)) hf 6 0 [(0, false, va_rf a0), (1, true, .long j1)] [] h dc ds := by
  unfold fn_X8_hasKey at hr
  intro H locs cells slots ls hH hS hl hc hs
  have X := Y.1
  refine lv_iconst (v := 0) X.1 X.2.1 dX8_hasKey_0 (by decide) ?_
  refine mz_istore_n X [(3, false, .int 0), (0, false, va_rf a0), (1, true, .long j1)] dX8_hasKey_1 rfl hl (by decide) rfl (fun ls hl => ?_)
  exact pf_X8_hasKey_b2 r Y 1001 h a0 j1 0 _ _ hr H locs cells slots ls hH hS (mz_sub hl [1, 2, 0] rfl) hc hs
set_option maxRecDepth 100000 in
theorem ct_X8_hasKey (l : Launch) (g : mz_G) (h : mz_H) (a0 : (Option Nat)) (j1 : Int64) (r : Int32) (hf : mz_H) (k n : Nat) (hr : fn_X8_hasKey h a0 j1 = some (r, hf, k, n)) : mz_C l g yX8_hasKey cX8_hasKey 6 (some .boolean) 2 45 [va_rf a0, .long j1] h (some (Value.int r)) hf k n := by
  refine mz_met (as := [(false, va_rf a0), (true, .long j1)]) (plainFor_of_name (by decide)) (mz_c1 (mz_cat_rf _) (mz_c1 rfl mz_c0)) (Nat.le_of_ble_eq_true rfl) ?_
  intro p e s m args below meth c Y
  exact pf_X8_hasKey_b0 r Y h a0 j1 _ _ hr
theorem dX8_isLike_0 : decode cX8_isLike 0 = .ok (.aload_n 0, 1) := by decide +kernel
theorem dX8_isLike_1 : decode cX8_isLike 1 = .ok (.getfield 9, 3) := by decide +kernel
theorem dX8_isLike_4 : decode cX8_isLike 4 = .ok (.aload_n 1, 1) := by decide +kernel
theorem dX8_isLike_5 : decode cX8_isLike 5 = .ok (.getfield 9, 3) := by decide +kernel
theorem dX8_isLike_8 : decode cX8_isLike 8 = .ok (.if_icmp .ne 16, 3) := by decide +kernel
theorem dX8_isLike_11 : decode cX8_isLike 11 = .ok (.aload_n 0, 1) := by decide +kernel
theorem dX8_isLike_12 : decode cX8_isLike 12 = .ok (.getfield 22, 3) := by decide +kernel
theorem dX8_isLike_15 : decode cX8_isLike 15 = .ok (.arraylength, 1) := by decide +kernel
theorem dX8_isLike_16 : decode cX8_isLike 16 = .ok (.aload_n 1, 1) := by decide +kernel
theorem dX8_isLike_17 : decode cX8_isLike 17 = .ok (.getfield 22, 3) := by decide +kernel
theorem dX8_isLike_20 : decode cX8_isLike 20 = .ok (.arraylength, 1) := by decide +kernel
theorem dX8_isLike_21 : decode cX8_isLike 21 = .ok (.if_icmp .eq 5, 3) := by decide +kernel
theorem dX8_isLike_24 : decode cX8_isLike 24 = .ok (.iconst 0, 1) := by decide +kernel
theorem dX8_isLike_25 : decode cX8_isLike 25 = .ok (.ireturn, 1) := by decide +kernel
theorem dX8_isLike_26 : decode cX8_isLike 26 = .ok (.iconst 0, 1) := by decide +kernel
theorem dX8_isLike_27 : decode cX8_isLike 27 = .ok (.istore_n 2, 1) := by decide +kernel
theorem dX8_isLike_28 : decode cX8_isLike 28 = .ok (.iload_n 2, 1) := by decide +kernel
theorem dX8_isLike_29 : decode cX8_isLike 29 = .ok (.aload_n 0, 1) := by decide +kernel
theorem dX8_isLike_30 : decode cX8_isLike 30 = .ok (.getfield 22, 3) := by decide +kernel
theorem dX8_isLike_33 : decode cX8_isLike 33 = .ok (.arraylength, 1) := by decide +kernel
theorem dX8_isLike_34 : decode cX8_isLike 34 = .ok (.if_icmp .ge 29, 3) := by decide +kernel
theorem dX8_isLike_37 : decode cX8_isLike 37 = .ok (.aload_n 0, 1) := by decide +kernel
theorem dX8_isLike_38 : decode cX8_isLike 38 = .ok (.getfield 22, 3) := by decide +kernel
theorem dX8_isLike_41 : decode cX8_isLike 41 = .ok (.iload_n 2, 1) := by decide +kernel
theorem dX8_isLike_42 : decode cX8_isLike 42 = .ok (.aaload, 1) := by decide +kernel
theorem dX8_isLike_43 : decode cX8_isLike 43 = .ok (.aload_n 1, 1) := by decide +kernel
theorem dX8_isLike_44 : decode cX8_isLike 44 = .ok (.getfield 22, 3) := by decide +kernel
theorem dX8_isLike_47 : decode cX8_isLike 47 = .ok (.iload_n 2, 1) := by decide +kernel
theorem dX8_isLike_48 : decode cX8_isLike 48 = .ok (.aaload, 1) := by decide +kernel
theorem dX8_isLike_49 : decode cX8_isLike 49 = .ok (.invokevirtual 60, 3) := by decide +kernel
theorem dX8_isLike_52 : decode cX8_isLike 52 = .ok (.ifCond .ne 5, 3) := by decide +kernel
theorem dX8_isLike_55 : decode cX8_isLike 55 = .ok (.iconst 0, 1) := by decide +kernel
theorem dX8_isLike_56 : decode cX8_isLike 56 = .ok (.ireturn, 1) := by decide +kernel
theorem dX8_isLike_57 : decode cX8_isLike 57 = .ok (.iinc 2 1, 3) := by decide +kernel
theorem dX8_isLike_60 : decode cX8_isLike 60 = .ok (.goto (-32), 3) := by decide +kernel
theorem dX8_isLike_63 : decode cX8_isLike 63 = .ok (.iconst 1, 1) := by decide +kernel
theorem dX8_isLike_64 : decode cX8_isLike 64 = .ok (.ireturn, 1) := by decide +kernel
def fn_X8_isLike_b28 : Nat → mz_H → (Option Nat) → (Option Nat) → Int32 → mz_Res Int32
  | 0, _, _, _, _ => none
  | n + 1, h, a0, a1, x2 =>
    mz_op (mz_fR h a0 7 1) fun v1 =>
    mz_op (mz_len h v1 15) fun v2 =>
    if v2 ≤ x2 then
      mz_chk ((1 : Int32) &&& 1 == 1) (mz_ret 1 h)
    else
      mz_op (mz_fR h a0 7 1) fun v3 =>
      mz_op (mz_aR h v3 15 x2) fun v4 =>
      mz_op (mz_fR h a1 7 1) fun v5 =>
      mz_op (mz_aR h v5 15 x2) fun v6 =>
      mz_chk (mz_is h v4 5) <| mz_call (fn_X6_isLike h v4 v6) fun v7 h =>
      if v7 = 0 then
        mz_chk ((0 : Int32) &&& 1 == 0) (mz_ret 0 h)
      else
        mz_op (some (x2 + 1)) fun v8 =>
        fn_X8_isLike_b28 n h a0 a1 v8
set_option maxHeartbeats 4000000 in
set_option maxRecDepth 100000 in
theorem pf_X8_isLike_b28 (r : Int32) (Y : mz_Y p g RX8 cX8_isLike 3 (some .boolean) "isLike" (mz_AF h0) s m args meth c) : ∀ (n : Nat) (h : mz_H) (a0 : (Option Nat)) (a1 : (Option Nat)) (x2 : Int32) (dc ds : Nat), fn_X8_isLike_b28 n h a0 a1 x2 = some (r, hf, dc, ds) → mz_Go l g p e s m args below meth c 3 66 DC DS h0 (some (Value.int r)) hf 3 28 [(0, false, va_rf a0), (1, false, va_rf a1), (2, false, .int x2)] [] h dc ds := by
  have X := Y.1
  intro n
  induction n with
  | zero => intro h a0 a1 x2 dc ds hr; simp [fn_X8_isLike_b28] at hr
  | succ n ih =>
    intro h a0 a1 x2 dc ds hr
    rw [fn_X8_isLike_b28] at hr
    intro H locs cells slots ls hH hS hl hc hs
    refine lv_iload_n X.1 X.2.1 dX8_isLike_28 rfl (mz_at hl 2 rfl) ?_
    refine mz_aload_n X dX8_isLike_29 rfl (mz_at hl 0 rfl) ?_
    refine mz_getR X hH fl_RX8_22 dX8_isLike_30 hr (fun v1 hr => ?_)
    refine mz_alen (t := 15) X hH (by decide) dX8_isLike_33 hr (fun v2 hr => ?_)
    refine mz_icmp_ge X 63 dX8_isLike_34 (by decide) hr (fun hr => ?_) (fun hr => ?_)
    · refine lv_iconst (v := 1) X.1 X.2.1 dX8_isLike_63 (by decide) ?_
      exact mz_zret Y dX8_isLike_64 hH hS hc hs hr
    · refine mz_aload_n X dX8_isLike_37 rfl (mz_at hl 0 rfl) ?_
      refine mz_getR X hH fl_RX8_22 dX8_isLike_38 hr (fun v3 hr => ?_)
      refine lv_iload_n X.1 X.2.1 dX8_isLike_41 rfl (mz_at hl 2 rfl) ?_
      refine mz_aald (t := 15) X hH (by decide) rfl dX8_isLike_42 hr (fun v4 hr => ?_)
      refine mz_aload_n X dX8_isLike_43 rfl (mz_at hl 1 rfl) ?_
      refine mz_getR X hH fl_RX8_22 dX8_isLike_44 hr (fun v5 hr => ?_)
      refine lv_iload_n X.1 X.2.1 dX8_isLike_47 rfl (mz_at hl 2 rfl) ?_
      refine mz_aald (t := 15) X hH (by decide) rfl dX8_isLike_48 hr (fun v6 hr => ?_)
      refine mz_kV Value.int X hH hS hl.1.1 [va_rf v6] [] hr (ct_X6_isLike l g h v4 v6) mb_RX8_60 rfl im_X6_isLike rfl (Nat.le_of_ble_eq_true rfl) ⟨Nat.le_of_ble_eq_true rfl, Nat.le_of_ble_eq_true rfl⟩ hc hs dX8_isLike_49 rfl (fun v7 h H locs cells slots dc ds hr hH hS hc hs => ?_)
      refine mz_if_ne X 57 dX8_isLike_52 (by decide) hr (fun hr => ?_) (fun hr => ?_)
      · obtain ⟨v8, hv8, hr⟩ := mz_op_some hr
        have hv8 := Option.some.inj hv8
        refine mz_iinc (k := 2) X [(2, false, .int v8), (0, false, va_rf a0), (1, false, va_rf a1)] v8 dX8_isLike_57 hl rfl hv8 (by decide) rfl (fun ls hl => ?_)
        refine lv_goto (tgt := 28) X.1 X.2.1 dX8_isLike_60 (by decide) ?_
        exact ih h a0 a1 v8 _ _ hr H locs cells slots ls hH hS (mz_sub hl [1, 2, 0] rfl) hc hs
      · refine lv_iconst (v := 0) X.1 X.2.1 dX8_isLike_55 (by decide) ?_
        exact mz_zret Y dX8_isLike_56 hH hS hc hs hr
def fn_X8_isLike (h : mz_H) (a0 : (Option Nat)) (a1 : (Option Nat)) : mz_Res Int32 :=
  mz_op (mz_fI h a0 7 0) fun v1 =>
  mz_op (mz_fI h a1 7 0) fun v2 =>
  if v1 = v2 then
    mz_op (mz_fR h a0 7 1) fun v3 =>
    mz_op (mz_len h v3 15) fun v4 =>
    mz_op (mz_fR h a1 7 1) fun v5 =>
    mz_op (mz_len h v5 15) fun v6 =>
    if v4 = v6 then
      fn_X8_isLike_b28 1001 h a0 a1 0
    else
      mz_chk ((0 : Int32) &&& 1 == 0) (mz_ret 0 h)
  else
    mz_chk ((0 : Int32) &&& 1 == 0) (mz_ret 0 h)
set_option maxHeartbeats 4000000 in
set_option maxRecDepth 100000 in
theorem pf_X8_isLike_b0 (r : Int32) (Y : mz_Y p g RX8 cX8_isLike 3 (some .boolean) "isLike" (mz_AF h0) s m args meth c) (h : mz_H) (a0 : (Option Nat)) (a1 : (Option Nat)) (dc ds : Nat) (hr : fn_X8_isLike h a0 a1 = some (r, hf, dc, ds)) : mz_Go l g p e s m args below meth c 3 66 DC DS h0 (some (Value.int r)) hf 3 0 [(0, false, va_rf a0), (1, false, va_rf a1)] [] h dc ds := by
  unfold fn_X8_isLike at hr
  intro H locs cells slots ls hH hS hl hc hs
  have X := Y.1
  refine mz_aload_n X dX8_isLike_0 rfl (mz_at hl 0 rfl) ?_
  refine mz_getI X hH fl_RX8_9 dX8_isLike_1 hr (fun v1 hr => ?_)
  refine mz_aload_n X dX8_isLike_4 rfl (mz_at hl 1 rfl) ?_
  refine mz_getI X hH fl_RX8_9 dX8_isLike_5 hr (fun v2 hr => ?_)
  refine mz_icmp_ne X 24 dX8_isLike_8 (by decide) hr (fun hr => ?_) (fun hr => ?_)
  · refine lv_iconst (v := 0) X.1 X.2.1 dX8_isLike_24 (by decide) ?_
    exact mz_zret Y dX8_isLike_25 hH hS hc hs hr
  · refine mz_aload_n X dX8_isLike_11 rfl (mz_at hl 0 rfl) ?_
    refine mz_getR X hH fl_RX8_22 dX8_isLike_12 hr (fun v3 hr => ?_)
    refine mz_alen (t := 15) X hH (by decide) dX8_isLike_15 hr (fun v4 hr => ?_)
    refine mz_aload_n X dX8_isLike_16 rfl (mz_at hl 1 rfl) ?_
    refine mz_getR X hH fl_RX8_22 dX8_isLike_17 hr (fun v5 hr => ?_)
    refine mz_alen (t := 15) X hH (by decide) dX8_isLike_20 hr (fun v6 hr => ?_)
    refine mz_icmp_eq X 26 dX8_isLike_21 (by decide) hr (fun hr => ?_) (fun hr => ?_)
    · refine lv_iconst (v := 0) X.1 X.2.1 dX8_isLike_26 (by decide) ?_
      refine mz_istore_n X [(2, false, .int 0), (0, false, va_rf a0), (1, false, va_rf a1)] dX8_isLike_27 rfl hl (by decide) rfl (fun ls hl => ?_)
      exact pf_X8_isLike_b28 r Y 1001 h a0 a1 0 _ _ hr H locs cells slots ls hH hS (mz_sub hl [1, 2, 0] rfl) hc hs
    · refine lv_iconst (v := 0) X.1 X.2.1 dX8_isLike_24 (by decide) ?_
      exact mz_zret Y dX8_isLike_25 hH hS hc hs hr
set_option maxRecDepth 100000 in
theorem ct_X8_isLike (l : Launch) (g : mz_G) (h : mz_H) (a0 : (Option Nat)) (a1 : (Option Nat)) (r : Int32) (hf : mz_H) (k n : Nat) (hr : fn_X8_isLike h a0 a1 = some (r, hf, k, n)) : mz_C l g yX8_isLike cX8_isLike 3 (some .boolean) 3 66 [va_rf a0, va_rf a1] h (some (Value.int r)) hf k n := by
  refine mz_met (as := [(false, va_rf a0), (false, va_rf a1)]) (plainFor_of_name (by decide)) (mz_c1 (mz_cat_rf _) (mz_c1 (mz_cat_rf _) mz_c0)) (Nat.le_of_ble_eq_true rfl) ?_
  intro p e s m args below meth c Y
  exact pf_X8_isLike_b0 r Y h a0 a1 _ _ hr
end

/-! X9_isPlainOrRecord X9_cost X9_hasGuise X9_hasMember X9_mayHave X9_laneMeant X10_init X10_add X10_typeOf X10_meet X10_meetGuises X10_wayLengthOf X10_isBelow X10_start X10_startedCount X4_init X4_has X4_takesType X5_init X5_init_ X5_has X5_hasRange -/
section
variable {p : Program} {l : Launch} {e : Env} {s : State} {m : MethodId} {args : Array Value} {below : List Frame} {meth : Method} {c : Code} {g : mz_G} {h0 hf : mz_H} {DC DS : Nat}
theorem dX9_isPlainOrRecord_0 : decode cX9_isPlainOrRecord 0 = .ok (.aload_n 0, 1) := by decide +kernel
theorem dX9_isPlainOrRecord_1 : decode cX9_isPlainOrRecord 1 = .ok (.getfield 27, 3) := by decide +kernel
theorem dX9_isPlainOrRecord_4 : decode cX9_isPlainOrRecord 4 = .ok (.ifCond .eq 11, 3) := by decide +kernel
theorem dX9_isPlainOrRecord_7 : decode cX9_isPlainOrRecord 7 = .ok (.aload_n 0, 1) := by decide +kernel
theorem dX9_isPlainOrRecord_8 : decode cX9_isPlainOrRecord 8 = .ok (.getfield 27, 3) := by decide +kernel
theorem dX9_isPlainOrRecord_11 : decode cX9_isPlainOrRecord 11 = .ok (.iconst 3, 1) := by decide +kernel
theorem dX9_isPlainOrRecord_12 : decode cX9_isPlainOrRecord 12 = .ok (.if_icmp .ne 7, 3) := by decide +kernel
theorem dX9_isPlainOrRecord_15 : decode cX9_isPlainOrRecord 15 = .ok (.iconst 1, 1) := by decide +kernel
theorem dX9_isPlainOrRecord_16 : decode cX9_isPlainOrRecord 16 = .ok (.goto 4, 3) := by decide +kernel
theorem dX9_isPlainOrRecord_19 : decode cX9_isPlainOrRecord 19 = .ok (.iconst 0, 1) := by decide +kernel
theorem dX9_isPlainOrRecord_20 : decode cX9_isPlainOrRecord 20 = .ok (.ireturn, 1) := by decide +kernel
def fn_X9_isPlainOrRecord_b15 (h : mz_H) : mz_Res Int32 :=
  mz_chk ((1 : Int32) &&& 1 == 1) (mz_ret 1 h)
set_option maxHeartbeats 4000000 in
set_option maxRecDepth 100000 in
theorem pf_X9_isPlainOrRecord_b15 (r : Int32) (Y : mz_Y p g RX9 cX9_isPlainOrRecord 1 (some .boolean) "isPlainOrRecord" (mz_AF h0) s m args meth c) (h : mz_H) (dc ds : Nat) (hr : fn_X9_isPlainOrRecord_b15 h = some (r, hf, dc, ds)) : mz_Go l g p e s m args below meth c 0 0 DC DS h0 (some (Value.int r)) hf 1 15 [] [] h dc ds := by
  unfold fn_X9_isPlainOrRecord_b15 at hr
  intro H locs cells slots ls hH hS hl hc hs
  have X := Y.1
  refine lv_iconst (v := 1) X.1 X.2.1 dX9_isPlainOrRecord_15 (by decide) ?_
  refine lv_goto (tgt := 20) X.1 X.2.1 dX9_isPlainOrRecord_16 (by decide) ?_
  exact mz_zret Y dX9_isPlainOrRecord_20 hH hS hc hs hr
def fn_X9_isPlainOrRecord (h : mz_H) (a0 : (Option Nat)) : mz_Res Int32 :=
  mz_op (mz_fI h a0 8 0) fun v1 =>
  if v1 = 0 then
    fn_X9_isPlainOrRecord_b15 h
  else
    mz_op (mz_fI h a0 8 0) fun v2 =>
    if v2 = 3 then
      fn_X9_isPlainOrRecord_b15 h
    else
      mz_chk ((0 : Int32) &&& 1 == 0) (mz_ret 0 h)
set_option maxHeartbeats 4000000 in
set_option maxRecDepth 100000 in
theorem pf_X9_isPlainOrRecord_b0 (r : Int32) (Y : mz_Y p g RX9 cX9_isPlainOrRecord 1 (some .boolean) "isPlainOrRecord" (mz_AF h0) s m args meth c) (h : mz_H) (a0 : (Option Nat)) (dc ds : Nat) (hr : fn_X9_isPlainOrRecord h a0 = some (r, hf, dc, ds)) : mz_Go l g p e s m args below meth c 0 0 DC DS h0 (some (Value.int r)) hf 1 0 [(0, false, va_rf a0)] [] h dc ds := by
  unfold fn_X9_isPlainOrRecord at hr
  intro H locs cells slots ls hH hS hl hc hs
  have X := Y.1
  refine mz_aload_n X dX9_isPlainOrRecord_0 rfl (mz_at hl 0 rfl) ?_
  refine mz_getI X hH fl_RX9_27 dX9_isPlainOrRecord_1 hr (fun v1 hr => ?_)
  refine mz_if_eq X 15 dX9_isPlainOrRecord_4 (by decide) hr (fun hr => ?_) (fun hr => ?_)
  · exact pf_X9_isPlainOrRecord_b15 r Y h  _ _ hr H locs cells slots ls hH hS (mz_sub hl [] rfl) hc hs
  · refine mz_aload_n X dX9_isPlainOrRecord_7 rfl (mz_at hl 0 rfl) ?_
    refine mz_getI X hH fl_RX9_27 dX9_isPlainOrRecord_8 hr (fun v2 hr => ?_)
    refine lv_iconst (v := 3) X.1 X.2.1 dX9_isPlainOrRecord_11 (by decide) ?_
    refine mz_icmp_ne X 19 dX9_isPlainOrRecord_12 (by decide) hr (fun hr => ?_) (fun hr => ?_)
    · refine lv_iconst (v := 0) X.1 X.2.1 dX9_isPlainOrRecord_19 (by decide) ?_
      exact mz_zret Y dX9_isPlainOrRecord_20 hH hS hc hs hr
    · exact pf_X9_isPlainOrRecord_b15 r Y h  _ _ hr H locs cells slots ls hH hS (mz_sub hl [] rfl) hc hs
set_option maxRecDepth 100000 in
theorem ct_X9_isPlainOrRecord (l : Launch) (g : mz_G) (h : mz_H) (a0 : (Option Nat)) (r : Int32) (hf : mz_H) (k n : Nat) (hr : fn_X9_isPlainOrRecord h a0 = some (r, hf, k, n)) : mz_C l g yX9_isPlainOrRecord cX9_isPlainOrRecord 1 (some .boolean) 0 0 [va_rf a0] h (some (Value.int r)) hf k n := by
  refine mz_met (as := [(false, va_rf a0)]) (plainFor_of_name (by decide)) (mz_c1 (mz_cat_rf _) mz_c0) (Nat.le_of_ble_eq_true rfl) ?_
  intro p e s m args below meth c Y
  exact pf_X9_isPlainOrRecord_b0 r Y h a0 _ _ hr
theorem dX9_cost_0 : decode cX9_cost 0 = .ok (.aload_n 0, 1) := by decide +kernel
theorem dX9_cost_1 : decode cX9_cost 1 = .ok (.getfield 27, 3) := by decide +kernel
theorem dX9_cost_4 : decode cX9_cost 4 = .ok (.tableswitch 52 0 5 #[40, 52, 43, 46, 52, 49], 40) := by decide +kernel
theorem dX9_cost_44 : decode cX9_cost 44 = .ok (.bipush 10, 2) := by decide +kernel
theorem dX9_cost_46 : decode cX9_cost 46 = .ok (.ireturn, 1) := by decide +kernel
theorem dX9_cost_47 : decode cX9_cost 47 = .ok (.bipush 7, 2) := by decide +kernel
theorem dX9_cost_49 : decode cX9_cost 49 = .ok (.ireturn, 1) := by decide +kernel
theorem dX9_cost_50 : decode cX9_cost 50 = .ok (.bipush 12, 2) := by decide +kernel
theorem dX9_cost_52 : decode cX9_cost 52 = .ok (.ireturn, 1) := by decide +kernel
theorem dX9_cost_53 : decode cX9_cost 53 = .ok (.bipush 6, 2) := by decide +kernel
theorem dX9_cost_55 : decode cX9_cost 55 = .ok (.ireturn, 1) := by decide +kernel
theorem dX9_cost_56 : decode cX9_cost 56 = .ok (.iconst 5, 1) := by decide +kernel
theorem dX9_cost_57 : decode cX9_cost 57 = .ok (.ireturn, 1) := by decide +kernel
def fn_X9_cost (h : mz_H) (a0 : (Option Nat)) : mz_Res Int32 :=
  mz_op (mz_fI h a0 8 0) fun v1 =>
  if v1 = 0 then
    mz_ret 10 h
  else
  if v1 = 2 then
    mz_ret 7 h
  else
  if v1 = 3 then
    mz_ret 12 h
  else
  if v1 = 5 then
    mz_ret 6 h
  else
  mz_ret 5 h
set_option maxHeartbeats 4000000 in
set_option maxRecDepth 100000 in
theorem pf_X9_cost_b0 (r : Int32) (Y : mz_Y p g RX9 cX9_cost 1 (some .int) "cost" (mz_AF h0) s m args meth c) (h : mz_H) (a0 : (Option Nat)) (dc ds : Nat) (hr : fn_X9_cost h a0 = some (r, hf, dc, ds)) : mz_Go l g p e s m args below meth c 0 0 DC DS h0 (some (Value.int r)) hf 1 0 [(0, false, va_rf a0)] [] h dc ds := by
  unfold fn_X9_cost at hr
  intro H locs cells slots ls hH hS hl hc hs
  have X := Y.1
  refine mz_aload_n X dX9_cost_0 rfl (mz_at hl 0 rfl) ?_
  refine mz_getI X hH fl_RX9_27 dX9_cost_1 hr (fun v1 hr => ?_)
  by_cases q0 : v1 = 0
  · rw [if_pos q0] at hr
    refine mz_tin X dX9_cost_4 q0 44 (by decide) (by decide) rfl (by decide) ?_
    refine lv_bipush (v := 10) X.1 X.2.1 dX9_cost_44 (by decide) ?_
    exact mz_iret Y dX9_cost_46 hH hS hc hs hr
  rw [if_neg q0] at hr
  by_cases q2 : v1 = 2
  · rw [if_pos q2] at hr
    refine mz_tin X dX9_cost_4 q2 47 (by decide) (by decide) rfl (by decide) ?_
    refine lv_bipush (v := 7) X.1 X.2.1 dX9_cost_47 (by decide) ?_
    exact mz_iret Y dX9_cost_49 hH hS hc hs hr
  rw [if_neg q2] at hr
  by_cases q3 : v1 = 3
  · rw [if_pos q3] at hr
    refine mz_tin X dX9_cost_4 q3 50 (by decide) (by decide) rfl (by decide) ?_
    refine lv_bipush (v := 12) X.1 X.2.1 dX9_cost_50 (by decide) ?_
    exact mz_iret Y dX9_cost_52 hH hS hc hs hr
  rw [if_neg q3] at hr
  by_cases q5 : v1 = 5
  · rw [if_pos q5] at hr
    refine mz_tin X dX9_cost_4 q5 53 (by decide) (by decide) rfl (by decide) ?_
    refine lv_bipush (v := 6) X.1 X.2.1 dX9_cost_53 (by decide) ?_
    exact mz_iret Y dX9_cost_55 hH hS hc hs hr
  rw [if_neg q5] at hr
  have kd : W p l e ({ frames := 0, cells := DC, slots := DS, locals := 0 }) s m args below meth c H locs cells slots (MQ below (mz_Q g h0 (some (Value.int r)) hf) args s DC DS (mz_AF h0)) (F0 m 56 ls []) := by
    refine lv_iconst (v := 5) X.1 X.2.1 dX9_cost_56 (by decide) ?_
    exact mz_iret Y dX9_cost_57 hH hS hc hs hr
  by_cases q1 : v1 = 1
  · exact mz_tin X dX9_cost_4 q1 56 (by decide) (by decide) rfl (by decide) kd
  by_cases q4 : v1 = 4
  · exact mz_tin X dX9_cost_4 q4 56 (by decide) (by decide) rfl (by decide) kd
  have t0 : ¬ (v1 : Int32).toInt = 0 := fun z => q0 (mz_ti 0 (by decide) z)
  have t1 : ¬ (v1 : Int32).toInt = 1 := fun z => q1 (mz_ti 1 (by decide) z)
  have t2 : ¬ (v1 : Int32).toInt = 2 := fun z => q2 (mz_ti 2 (by decide) z)
  have t3 : ¬ (v1 : Int32).toInt = 3 := fun z => q3 (mz_ti 3 (by decide) z)
  have t4 : ¬ (v1 : Int32).toInt = 4 := fun z => q4 (mz_ti 4 (by decide) z)
  have t5 : ¬ (v1 : Int32).toInt = 5 := fun z => q5 (mz_ti 5 (by decide) z)
  exact mz_tout X dX9_cost_4 56 (by omega) (by decide) kd
set_option maxRecDepth 100000 in
theorem ct_X9_cost (l : Launch) (g : mz_G) (h : mz_H) (a0 : (Option Nat)) (r : Int32) (hf : mz_H) (k n : Nat) (hr : fn_X9_cost h a0 = some (r, hf, k, n)) : mz_C l g yX9_cost cX9_cost 1 (some .int) 0 0 [va_rf a0] h (some (Value.int r)) hf k n := by
  refine mz_met (as := [(false, va_rf a0)]) (plainFor_of_name (by decide)) (mz_c1 (mz_cat_rf _) mz_c0) (Nat.le_of_ble_eq_true rfl) ?_
  intro p e s m args below meth c Y
  exact pf_X9_cost_b0 r Y h a0 _ _ hr
theorem dX9_hasGuise_0 : decode cX9_hasGuise 0 = .ok (.iconst 0, 1) := by decide +kernel
theorem dX9_hasGuise_1 : decode cX9_hasGuise 1 = .ok (.istore_n 2, 1) := by decide +kernel
theorem dX9_hasGuise_2 : decode cX9_hasGuise 2 = .ok (.iload_n 2, 1) := by decide +kernel
theorem dX9_hasGuise_3 : decode cX9_hasGuise 3 = .ok (.aload_n 0, 1) := by decide +kernel
theorem dX9_hasGuise_4 : decode cX9_hasGuise 4 = .ok (.getfield 37, 3) := by decide +kernel
theorem dX9_hasGuise_7 : decode cX9_hasGuise 7 = .ok (.if_icmp .ge 21, 3) := by decide +kernel
theorem dX9_hasGuise_10 : decode cX9_hasGuise 10 = .ok (.aload_n 0, 1) := by decide +kernel
theorem dX9_hasGuise_11 : decode cX9_hasGuise 11 = .ok (.getfield 9, 3) := by decide +kernel
theorem dX9_hasGuise_14 : decode cX9_hasGuise 14 = .ok (.iload_n 2, 1) := by decide +kernel
theorem dX9_hasGuise_15 : decode cX9_hasGuise 15 = .ok (.iaload, 1) := by decide +kernel
theorem dX9_hasGuise_16 : decode cX9_hasGuise 16 = .ok (.iload_n 1, 1) := by decide +kernel
theorem dX9_hasGuise_17 : decode cX9_hasGuise 17 = .ok (.if_icmp .ne 5, 3) := by decide +kernel
theorem dX9_hasGuise_20 : decode cX9_hasGuise 20 = .ok (.iconst 1, 1) := by decide +kernel
theorem dX9_hasGuise_21 : decode cX9_hasGuise 21 = .ok (.ireturn, 1) := by decide +kernel
theorem dX9_hasGuise_22 : decode cX9_hasGuise 22 = .ok (.iinc 2 1, 3) := by decide +kernel
theorem dX9_hasGuise_25 : decode cX9_hasGuise 25 = .ok (.goto (-23), 3) := by decide +kernel
theorem dX9_hasGuise_28 : decode cX9_hasGuise 28 = .ok (.iconst 0, 1) := by decide +kernel
theorem dX9_hasGuise_29 : decode cX9_hasGuise 29 = .ok (.ireturn, 1) := by decide +kernel
def fn_X9_hasGuise_b2 : Nat → mz_H → (Option Nat) → Int32 → Int32 → mz_Res Int32
  | 0, _, _, _, _ => none
  | n + 1, h, a0, x1, x2 =>
    mz_op (mz_fI h a0 8 4) fun v1 =>
    if v1 ≤ x2 then
      mz_chk ((0 : Int32) &&& 1 == 0) (mz_ret 0 h)
    else
      mz_op (mz_fR h a0 8 3) fun v2 =>
      mz_op (mz_aI h v2 0 x2) fun v3 =>
      if v3 = x1 then
        mz_chk ((1 : Int32) &&& 1 == 1) (mz_ret 1 h)
      else
        mz_op (some (x2 + 1)) fun v4 =>
        fn_X9_hasGuise_b2 n h a0 x1 v4
set_option maxHeartbeats 4000000 in
set_option maxRecDepth 100000 in
theorem pf_X9_hasGuise_b2 (r : Int32) (Y : mz_Y p g RX9 cX9_hasGuise 3 (some .boolean) "hasGuise" (mz_AF h0) s m args meth c) : ∀ (n : Nat) (h : mz_H) (a0 : (Option Nat)) (x1 : Int32) (x2 : Int32) (dc ds : Nat), fn_X9_hasGuise_b2 n h a0 x1 x2 = some (r, hf, dc, ds) → mz_Go l g p e s m args below meth c 0 0 DC DS h0 (some (Value.int r)) hf 3 2 [(0, false, va_rf a0), (1, false, .int x1), (2, false, .int x2)] [] h dc ds := by
  have X := Y.1
  intro n
  induction n with
  | zero => intro h a0 x1 x2 dc ds hr; simp [fn_X9_hasGuise_b2] at hr
  | succ n ih =>
    intro h a0 x1 x2 dc ds hr
    rw [fn_X9_hasGuise_b2] at hr
    intro H locs cells slots ls hH hS hl hc hs
    refine lv_iload_n X.1 X.2.1 dX9_hasGuise_2 rfl (mz_at hl 2 rfl) ?_
    refine mz_aload_n X dX9_hasGuise_3 rfl (mz_at hl 0 rfl) ?_
    refine mz_getI X hH fl_RX9_37 dX9_hasGuise_4 hr (fun v1 hr => ?_)
    refine mz_icmp_ge X 28 dX9_hasGuise_7 (by decide) hr (fun hr => ?_) (fun hr => ?_)
    · refine lv_iconst (v := 0) X.1 X.2.1 dX9_hasGuise_28 (by decide) ?_
      exact mz_zret Y dX9_hasGuise_29 hH hS hc hs hr
    · refine mz_aload_n X dX9_hasGuise_10 rfl (mz_at hl 0 rfl) ?_
      refine mz_getR X hH fl_RX9_9 dX9_hasGuise_11 hr (fun v2 hr => ?_)
      refine lv_iload_n X.1 X.2.1 dX9_hasGuise_14 rfl (mz_at hl 2 rfl) ?_
      refine mz_iald X hH dX9_hasGuise_15 hr (fun v3 hr => ?_)
      refine lv_iload_n X.1 X.2.1 dX9_hasGuise_16 rfl (mz_at hl 1 rfl) ?_
      refine mz_icmp_ne X 22 dX9_hasGuise_17 (by decide) hr (fun hr => ?_) (fun hr => ?_)
      · obtain ⟨v4, hv4, hr⟩ := mz_op_some hr
        have hv4 := Option.some.inj hv4
        refine mz_iinc (k := 2) X [(2, false, .int v4), (0, false, va_rf a0), (1, false, .int x1)] v4 dX9_hasGuise_22 hl rfl hv4 (by decide) rfl (fun ls hl => ?_)
        refine lv_goto (tgt := 2) X.1 X.2.1 dX9_hasGuise_25 (by decide) ?_
        exact ih h a0 x1 v4 _ _ hr H locs cells slots ls hH hS (mz_sub hl [1, 2, 0] rfl) hc hs
      · refine lv_iconst (v := 1) X.1 X.2.1 dX9_hasGuise_20 (by decide) ?_
        exact mz_zret Y dX9_hasGuise_21 hH hS hc hs hr
def fn_X9_hasGuise (h : mz_H) (a0 : (Option Nat)) (x1 : Int32) : mz_Res Int32 :=
  fn_X9_hasGuise_b2 1001 h a0 x1 0
set_option maxHeartbeats 4000000 in
set_option maxRecDepth 100000 in
theorem pf_X9_hasGuise_b0 (r : Int32) (Y : mz_Y p g RX9 cX9_hasGuise 3 (some .boolean) "hasGuise" (mz_AF h0) s m args meth c) (h : mz_H) (a0 : (Option Nat)) (x1 : Int32) (dc ds : Nat) (hr : fn_X9_hasGuise h a0 x1 = some (r, hf, dc, ds)) : mz_Go l g p e s m args below meth c 0 0 DC DS h0 (some (Value.int r)) hf 3 0 [(0, false, va_rf a0), (1, false, .int x1)] [] h dc ds := by
  unfold fn_X9_hasGuise at hr
  intro H locs cells slots ls hH hS hl hc hs
  have X := Y.1
  refine lv_iconst (v := 0) X.1 X.2.1 dX9_hasGuise_0 (by decide) ?_
  refine mz_istore_n X [(2, false, .int 0), (0, false, va_rf a0), (1, false, .int x1)] dX9_hasGuise_1 rfl hl (by decide) rfl (fun ls hl => ?_)
  exact pf_X9_hasGuise_b2 r Y 1001 h a0 x1 0 _ _ hr H locs cells slots ls hH hS (mz_sub hl [1, 2, 0] rfl) hc hs
set_option maxRecDepth 100000 in
theorem ct_X9_hasGuise (l : Launch) (g : mz_G) (h : mz_H) (a0 : (Option Nat)) (x1 : Int32) (r : Int32) (hf : mz_H) (k n : Nat) (hr : fn_X9_hasGuise h a0 x1 = some (r, hf, k, n)) : mz_C l g yX9_hasGuise cX9_hasGuise 3 (some .boolean) 0 0 [va_rf a0, .int x1] h (some (Value.int r)) hf k n := by
  refine mz_met (as := [(false, va_rf a0), (false, .int x1)]) (plainFor_of_name (by decide)) (mz_c1 (mz_cat_rf _) (mz_c1 rfl mz_c0)) (Nat.le_of_ble_eq_true rfl) ?_
  intro p e s m args below meth c Y
  exact pf_X9_hasGuise_b0 r Y h a0 x1 _ _ hr
theorem dX9_hasMember_0 : decode cX9_hasMember 0 = .ok (.iconst 0, 1) := by decide +kernel
theorem dX9_hasMember_1 : decode cX9_hasMember 1 = .ok (.istore_n 3, 1) := by decide +kernel
theorem dX9_hasMember_2 : decode cX9_hasMember 2 = .ok (.iload_n 3, 1) := by decide +kernel
theorem dX9_hasMember_3 : decode cX9_hasMember 3 = .ok (.aload_n 0, 1) := by decide +kernel
theorem dX9_hasMember_4 : decode cX9_hasMember 4 = .ok (.getfield 40, 3) := by decide +kernel
theorem dX9_hasMember_7 : decode cX9_hasMember 7 = .ok (.if_icmp .ge 37, 3) := by decide +kernel
theorem dX9_hasMember_10 : decode cX9_hasMember 10 = .ok (.aload_n 0, 1) := by decide +kernel
theorem dX9_hasMember_11 : decode cX9_hasMember 11 = .ok (.getfield 20, 3) := by decide +kernel
theorem dX9_hasMember_14 : decode cX9_hasMember 14 = .ok (.iload_n 3, 1) := by decide +kernel
theorem dX9_hasMember_15 : decode cX9_hasMember 15 = .ok (.aaload, 1) := by decide +kernel
theorem dX9_hasMember_16 : decode cX9_hasMember 16 = .ok (.getfield 43, 3) := by decide +kernel
theorem dX9_hasMember_19 : decode cX9_hasMember 19 = .ok (.iload_n 1, 1) := by decide +kernel
theorem dX9_hasMember_20 : decode cX9_hasMember 20 = .ok (.if_icmp .ne 18, 3) := by decide +kernel
theorem dX9_hasMember_23 : decode cX9_hasMember 23 = .ok (.aload_n 0, 1) := by decide +kernel
theorem dX9_hasMember_24 : decode cX9_hasMember 24 = .ok (.getfield 20, 3) := by decide +kernel
theorem dX9_hasMember_27 : decode cX9_hasMember 27 = .ok (.iload_n 3, 1) := by decide +kernel
theorem dX9_hasMember_28 : decode cX9_hasMember 28 = .ok (.aaload, 1) := by decide +kernel
theorem dX9_hasMember_29 : decode cX9_hasMember 29 = .ok (.getfield 46, 3) := by decide +kernel
theorem dX9_hasMember_32 : decode cX9_hasMember 32 = .ok (.iload_n 2, 1) := by decide +kernel
theorem dX9_hasMember_33 : decode cX9_hasMember 33 = .ok (.if_icmp .ne 5, 3) := by decide +kernel
theorem dX9_hasMember_36 : decode cX9_hasMember 36 = .ok (.iconst 1, 1) := by decide +kernel
theorem dX9_hasMember_37 : decode cX9_hasMember 37 = .ok (.ireturn, 1) := by decide +kernel
theorem dX9_hasMember_38 : decode cX9_hasMember 38 = .ok (.iinc 3 1, 3) := by decide +kernel
theorem dX9_hasMember_41 : decode cX9_hasMember 41 = .ok (.goto (-39), 3) := by decide +kernel
theorem dX9_hasMember_44 : decode cX9_hasMember 44 = .ok (.iconst 0, 1) := by decide +kernel
theorem dX9_hasMember_45 : decode cX9_hasMember 45 = .ok (.ireturn, 1) := by decide +kernel
def fn_X9_hasMember_b38 (rc2 : mz_H → (Option Nat) → Int32 → Int32 → Int32 → mz_Res Int32) (h : mz_H) (a0 : (Option Nat)) (x1 : Int32) (x2 : Int32) (x3 : Int32) : mz_Res Int32 :=
  mz_op (some (x3 + 1)) fun v1 =>
  rc2 h a0 x1 x2 v1
set_option maxHeartbeats 4000000 in
set_option maxRecDepth 100000 in
theorem pf_X9_hasMember_b38 (r : Int32) (Y : mz_Y p g RX9 cX9_hasMember 4 (some .boolean) "hasMember" (mz_AF h0) s m args meth c) {rc2 : mz_H → (Option Nat) → Int32 → Int32 → Int32 → mz_Res Int32} (hrc2 : ∀ (h : mz_H) (a0 : (Option Nat)) (x1 : Int32) (x2 : Int32) (x3 : Int32) (dc ds : Nat), rc2 h a0 x1 x2 x3 = some (r, hf, dc, ds) → mz_Go l g p e s m args below meth c 0 0 DC DS h0 (some (Value.int r)) hf 4 2 [(0, false, va_rf a0), (1, false, .int x1), (2, false, .int x2), (3, false, .int x3)] [] h dc ds) (h : mz_H) (a0 : (Option Nat)) (x1 : Int32) (x2 : Int32) (x3 : Int32) (dc ds : Nat) (hr : fn_X9_hasMember_b38 rc2 h a0 x1 x2 x3 = some (r, hf, dc, ds)) : mz_Go l g p e s m args below meth c 0 0 DC DS h0 (some (Value.int r)) hf 4 38 [(0, false, va_rf a0), (1, false, .int x1), (2, false, .int x2), (3, false, .int x3)] [] h dc ds := by
  unfold fn_X9_hasMember_b38 at hr
  intro H locs cells slots ls hH hS hl hc hs
  have X := Y.1
  obtain ⟨v1, hv1, hr⟩ := mz_op_some hr
  have hv1 := Option.some.inj hv1
  refine mz_iinc (k := 3) X [(3, false, .int v1), (0, false, va_rf a0), (1, false, .int x1), (2, false, .int x2)] v1 dX9_hasMember_38 hl rfl hv1 (by decide) rfl (fun ls hl => ?_)
  refine lv_goto (tgt := 2) X.1 X.2.1 dX9_hasMember_41 (by decide) ?_
  exact hrc2 h a0 x1 x2 v1 _ _ hr H locs cells slots ls hH hS (mz_sub hl [1, 2, 3, 0] rfl) hc hs
def fn_X9_hasMember_b2 : Nat → mz_H → (Option Nat) → Int32 → Int32 → Int32 → mz_Res Int32
  | 0, _, _, _, _, _ => none
  | n + 1, h, a0, x1, x2, x3 =>
    mz_op (mz_fI h a0 8 8) fun v1 =>
    if v1 ≤ x3 then
      mz_chk ((0 : Int32) &&& 1 == 0) (mz_ret 0 h)
    else
      mz_op (mz_fR h a0 8 7) fun v2 =>
      mz_op (mz_aR h v2 12 x3) fun v3 =>
      mz_op (mz_fI h v3 2 0) fun v4 =>
      if v4 = x1 then
        mz_op (mz_fR h a0 8 7) fun v5 =>
        mz_op (mz_aR h v5 12 x3) fun v6 =>
        mz_op (mz_fI h v6 2 1) fun v7 =>
        if v7 = x2 then
          mz_chk ((1 : Int32) &&& 1 == 1) (mz_ret 1 h)
        else
          fn_X9_hasMember_b38 (fn_X9_hasMember_b2 n) h a0 x1 x2 x3
      else
        fn_X9_hasMember_b38 (fn_X9_hasMember_b2 n) h a0 x1 x2 x3
set_option maxHeartbeats 4000000 in
set_option maxRecDepth 100000 in
theorem pf_X9_hasMember_b2 (r : Int32) (Y : mz_Y p g RX9 cX9_hasMember 4 (some .boolean) "hasMember" (mz_AF h0) s m args meth c) : ∀ (n : Nat) (h : mz_H) (a0 : (Option Nat)) (x1 : Int32) (x2 : Int32) (x3 : Int32) (dc ds : Nat), fn_X9_hasMember_b2 n h a0 x1 x2 x3 = some (r, hf, dc, ds) → mz_Go l g p e s m args below meth c 0 0 DC DS h0 (some (Value.int r)) hf 4 2 [(0, false, va_rf a0), (1, false, .int x1), (2, false, .int x2), (3, false, .int x3)] [] h dc ds := by
  have X := Y.1
  intro n
  induction n with
  | zero => intro h a0 x1 x2 x3 dc ds hr; simp [fn_X9_hasMember_b2] at hr
  | succ n ih =>
    intro h a0 x1 x2 x3 dc ds hr
    rw [fn_X9_hasMember_b2] at hr
    intro H locs cells slots ls hH hS hl hc hs
    refine lv_iload_n X.1 X.2.1 dX9_hasMember_2 rfl (mz_at hl 3 rfl) ?_
    refine mz_aload_n X dX9_hasMember_3 rfl (mz_at hl 0 rfl) ?_
    refine mz_getI X hH fl_RX9_40 dX9_hasMember_4 hr (fun v1 hr => ?_)
    refine mz_icmp_ge X 44 dX9_hasMember_7 (by decide) hr (fun hr => ?_) (fun hr => ?_)
    · refine lv_iconst (v := 0) X.1 X.2.1 dX9_hasMember_44 (by decide) ?_
      exact mz_zret Y dX9_hasMember_45 hH hS hc hs hr
    · refine mz_aload_n X dX9_hasMember_10 rfl (mz_at hl 0 rfl) ?_
      refine mz_getR X hH fl_RX9_20 dX9_hasMember_11 hr (fun v2 hr => ?_)
      refine lv_iload_n X.1 X.2.1 dX9_hasMember_14 rfl (mz_at hl 3 rfl) ?_
      refine mz_aald (t := 12) X hH (by decide) rfl dX9_hasMember_15 hr (fun v3 hr => ?_)
      refine mz_getI X hH fl_RX9_43 dX9_hasMember_16 hr (fun v4 hr => ?_)
      refine lv_iload_n X.1 X.2.1 dX9_hasMember_19 rfl (mz_at hl 1 rfl) ?_
      refine mz_icmp_ne X 38 dX9_hasMember_20 (by decide) hr (fun hr => ?_) (fun hr => ?_)
      · exact pf_X9_hasMember_b38 r Y ih h a0 x1 x2 x3 _ _ hr H locs cells slots ls hH hS (mz_sub hl [0, 1, 2, 3] rfl) hc hs
      · refine mz_aload_n X dX9_hasMember_23 rfl (mz_at hl 0 rfl) ?_
        refine mz_getR X hH fl_RX9_20 dX9_hasMember_24 hr (fun v5 hr => ?_)
        refine lv_iload_n X.1 X.2.1 dX9_hasMember_27 rfl (mz_at hl 3 rfl) ?_
        refine mz_aald (t := 12) X hH (by decide) rfl dX9_hasMember_28 hr (fun v6 hr => ?_)
        refine mz_getI X hH fl_RX9_46 dX9_hasMember_29 hr (fun v7 hr => ?_)
        refine lv_iload_n X.1 X.2.1 dX9_hasMember_32 rfl (mz_at hl 2 rfl) ?_
        refine mz_icmp_ne X 38 dX9_hasMember_33 (by decide) hr (fun hr => ?_) (fun hr => ?_)
        · exact pf_X9_hasMember_b38 r Y ih h a0 x1 x2 x3 _ _ hr H locs cells slots ls hH hS (mz_sub hl [0, 1, 2, 3] rfl) hc hs
        · refine lv_iconst (v := 1) X.1 X.2.1 dX9_hasMember_36 (by decide) ?_
          exact mz_zret Y dX9_hasMember_37 hH hS hc hs hr
def fn_X9_hasMember (h : mz_H) (a0 : (Option Nat)) (x1 : Int32) (x2 : Int32) : mz_Res Int32 :=
  fn_X9_hasMember_b2 1001 h a0 x1 x2 0
set_option maxHeartbeats 4000000 in
set_option maxRecDepth 100000 in
theorem pf_X9_hasMember_b0 (r : Int32) (Y : mz_Y p g RX9 cX9_hasMember 4 (some .boolean) "hasMember" (mz_AF h0) s m args meth c) (h : mz_H) (a0 : (Option Nat)) (x1 : Int32) (x2 : Int32) (dc ds : Nat) (hr : fn_X9_hasMember h a0 x1 x2 = some (r, hf, dc, ds)) : mz_Go l g p e s m args below meth c 0 0 DC DS h0 (some (Value.int r)) hf 4 0 [(0, false, va_rf a0), (1, false, .int x1), (2, false, .int x2)] [] h dc ds := by
  unfold fn_X9_hasMember at hr
  intro H locs cells slots ls hH hS hl hc hs
  have X := Y.1
  refine lv_iconst (v := 0) X.1 X.2.1 dX9_hasMember_0 (by decide) ?_
  refine mz_istore_n X [(3, false, .int 0), (0, false, va_rf a0), (1, false, .int x1), (2, false, .int x2)] dX9_hasMember_1 rfl hl (by decide) rfl (fun ls hl => ?_)
  exact pf_X9_hasMember_b2 r Y 1001 h a0 x1 x2 0 _ _ hr H locs cells slots ls hH hS (mz_sub hl [1, 2, 3, 0] rfl) hc hs
set_option maxRecDepth 100000 in
theorem ct_X9_hasMember (l : Launch) (g : mz_G) (h : mz_H) (a0 : (Option Nat)) (x1 : Int32) (x2 : Int32) (r : Int32) (hf : mz_H) (k n : Nat) (hr : fn_X9_hasMember h a0 x1 x2 = some (r, hf, k, n)) : mz_C l g yX9_hasMember cX9_hasMember 4 (some .boolean) 0 0 [va_rf a0, .int x1, .int x2] h (some (Value.int r)) hf k n := by
  refine mz_met (as := [(false, va_rf a0), (false, .int x1), (false, .int x2)]) (plainFor_of_name (by decide)) (mz_c1 (mz_cat_rf _) (mz_c1 rfl (mz_c1 rfl mz_c0))) (Nat.le_of_ble_eq_true rfl) ?_
  intro p e s m args below meth c Y
  exact pf_X9_hasMember_b0 r Y h a0 x1 x2 _ _ hr
theorem dX9_mayHave_0 : decode cX9_mayHave 0 = .ok (.iload_n 1, 1) := by decide +kernel
theorem dX9_mayHave_1 : decode cX9_mayHave 1 = .ok (.ifCond .ne 23, 3) := by decide +kernel
theorem dX9_mayHave_4 : decode cX9_mayHave 4 = .ok (.aload_n 0, 1) := by decide +kernel
theorem dX9_mayHave_5 : decode cX9_mayHave 5 = .ok (.getfield 27, 3) := by decide +kernel
theorem dX9_mayHave_8 : decode cX9_mayHave 8 = .ok (.iconst 2, 1) := by decide +kernel
theorem dX9_mayHave_9 : decode cX9_mayHave 9 = .ok (.if_icmp .ne 15, 3) := by decide +kernel
theorem dX9_mayHave_12 : decode cX9_mayHave 12 = .ok (.iload_n 2, 1) := by decide +kernel
theorem dX9_mayHave_13 : decode cX9_mayHave 13 = .ok (.iconst 2, 1) := by decide +kernel
theorem dX9_mayHave_14 : decode cX9_mayHave 14 = .ok (.iand, 1) := by decide +kernel
theorem dX9_mayHave_15 : decode cX9_mayHave 15 = .ok (.ifCond .eq 7, 3) := by decide +kernel
theorem dX9_mayHave_18 : decode cX9_mayHave 18 = .ok (.iconst 1, 1) := by decide +kernel
theorem dX9_mayHave_19 : decode cX9_mayHave 19 = .ok (.goto 4, 3) := by decide +kernel
theorem dX9_mayHave_22 : decode cX9_mayHave 22 = .ok (.iconst 0, 1) := by decide +kernel
theorem dX9_mayHave_23 : decode cX9_mayHave 23 = .ok (.ireturn, 1) := by decide +kernel
theorem dX9_mayHave_24 : decode cX9_mayHave 24 = .ok (.iload_n 1, 1) := by decide +kernel
theorem dX9_mayHave_25 : decode cX9_mayHave 25 = .ok (.iconst 2, 1) := by decide +kernel
theorem dX9_mayHave_26 : decode cX9_mayHave 26 = .ok (.if_icmp .ne 11, 3) := by decide +kernel
theorem dX9_mayHave_29 : decode cX9_mayHave 29 = .ok (.aload_n 0, 1) := by decide +kernel
theorem dX9_mayHave_30 : decode cX9_mayHave 30 = .ok (.getfield 27, 3) := by decide +kernel
theorem dX9_mayHave_33 : decode cX9_mayHave 33 = .ok (.iconst 3, 1) := by decide +kernel
theorem dX9_mayHave_34 : decode cX9_mayHave 34 = .ok (.if_icmp .ne 7, 3) := by decide +kernel
theorem dX9_mayHave_37 : decode cX9_mayHave 37 = .ok (.iconst 1, 1) := by decide +kernel
theorem dX9_mayHave_38 : decode cX9_mayHave 38 = .ok (.goto 4, 3) := by decide +kernel
theorem dX9_mayHave_41 : decode cX9_mayHave 41 = .ok (.iconst 0, 1) := by decide +kernel
theorem dX9_mayHave_42 : decode cX9_mayHave 42 = .ok (.ireturn, 1) := by decide +kernel
def fn_X9_mayHave_b37 (h : mz_H) : mz_Res Int32 :=
  mz_chk ((1 : Int32) &&& 1 == 1) (mz_ret 1 h)
set_option maxHeartbeats 4000000 in
set_option maxRecDepth 100000 in
theorem pf_X9_mayHave_b37 (r : Int32) (Y : mz_Y p g RX9 cX9_mayHave 3 (some .boolean) "mayHave" (mz_AF h0) s m args meth c) (h : mz_H) (dc ds : Nat) (hr : fn_X9_mayHave_b37 h = some (r, hf, dc, ds)) : mz_Go l g p e s m args below meth c 0 0 DC DS h0 (some (Value.int r)) hf 3 37 [] [] h dc ds := by
  unfold fn_X9_mayHave_b37 at hr
  intro H locs cells slots ls hH hS hl hc hs
  have X := Y.1
  refine lv_iconst (v := 1) X.1 X.2.1 dX9_mayHave_37 (by decide) ?_
  refine lv_goto (tgt := 42) X.1 X.2.1 dX9_mayHave_38 (by decide) ?_
  exact mz_zret Y dX9_mayHave_42 hH hS hc hs hr
def fn_X9_mayHave_b24 (h : mz_H) (a0 : (Option Nat)) (x1 : Int32) : mz_Res Int32 :=
  if x1 = 2 then
    mz_op (mz_fI h a0 8 0) fun v1 =>
    if v1 = 3 then
      fn_X9_mayHave_b37 h
    else
      mz_chk ((0 : Int32) &&& 1 == 0) (mz_ret 0 h)
  else
    fn_X9_mayHave_b37 h
set_option maxHeartbeats 4000000 in
set_option maxRecDepth 100000 in
theorem pf_X9_mayHave_b24 (r : Int32) (Y : mz_Y p g RX9 cX9_mayHave 3 (some .boolean) "mayHave" (mz_AF h0) s m args meth c) (h : mz_H) (a0 : (Option Nat)) (x1 : Int32) (dc ds : Nat) (hr : fn_X9_mayHave_b24 h a0 x1 = some (r, hf, dc, ds)) : mz_Go l g p e s m args below meth c 0 0 DC DS h0 (some (Value.int r)) hf 3 24 [(0, false, va_rf a0), (1, false, .int x1)] [] h dc ds := by
  unfold fn_X9_mayHave_b24 at hr
  intro H locs cells slots ls hH hS hl hc hs
  have X := Y.1
  refine lv_iload_n X.1 X.2.1 dX9_mayHave_24 rfl (mz_at hl 1 rfl) ?_
  refine lv_iconst (v := 2) X.1 X.2.1 dX9_mayHave_25 (by decide) ?_
  refine mz_icmp_ne X 37 dX9_mayHave_26 (by decide) hr (fun hr => ?_) (fun hr => ?_)
  · exact pf_X9_mayHave_b37 r Y h  _ _ hr H locs cells slots ls hH hS (mz_sub hl [] rfl) hc hs
  · refine mz_aload_n X dX9_mayHave_29 rfl (mz_at hl 0 rfl) ?_
    refine mz_getI X hH fl_RX9_27 dX9_mayHave_30 hr (fun v1 hr => ?_)
    refine lv_iconst (v := 3) X.1 X.2.1 dX9_mayHave_33 (by decide) ?_
    refine mz_icmp_ne X 41 dX9_mayHave_34 (by decide) hr (fun hr => ?_) (fun hr => ?_)
    · refine lv_iconst (v := 0) X.1 X.2.1 dX9_mayHave_41 (by decide) ?_
      exact mz_zret Y dX9_mayHave_42 hH hS hc hs hr
    · exact pf_X9_mayHave_b37 r Y h  _ _ hr H locs cells slots ls hH hS (mz_sub hl [] rfl) hc hs
def fn_X9_mayHave (h : mz_H) (a0 : (Option Nat)) (x1 : Int32) (x2 : Int32) : mz_Res Int32 :=
  if x1 = 0 then
    mz_op (mz_fI h a0 8 0) fun v1 =>
    if v1 = 2 then
      if (x2 &&& 2) = 0 then
        mz_chk ((0 : Int32) &&& 1 == 0) (mz_ret 0 h)
      else
        mz_chk ((1 : Int32) &&& 1 == 1) (mz_ret 1 h)
    else
      fn_X9_mayHave_b24 h a0 x1
  else
    fn_X9_mayHave_b24 h a0 x1
set_option maxHeartbeats 4000000 in
set_option maxRecDepth 100000 in
theorem pf_X9_mayHave_b0 (r : Int32) (Y : mz_Y p g RX9 cX9_mayHave 3 (some .boolean) "mayHave" (mz_AF h0) s m args meth c) (h : mz_H) (a0 : (Option Nat)) (x1 : Int32) (x2 : Int32) (dc ds : Nat) (hr : fn_X9_mayHave h a0 x1 x2 = some (r, hf, dc, ds)) : mz_Go l g p e s m args below meth c 0 0 DC DS h0 (some (Value.int r)) hf 3 0 [(0, false, va_rf a0), (1, false, .int x1), (2, false, .int x2)] [] h dc ds := by
  unfold fn_X9_mayHave at hr
  intro H locs cells slots ls hH hS hl hc hs
  have X := Y.1
  refine lv_iload_n X.1 X.2.1 dX9_mayHave_0 rfl (mz_at hl 1 rfl) ?_
  refine mz_if_ne X 24 dX9_mayHave_1 (by decide) hr (fun hr => ?_) (fun hr => ?_)
  · exact pf_X9_mayHave_b24 r Y h a0 x1 _ _ hr H locs cells slots ls hH hS (mz_sub hl [0, 1] rfl) hc hs
  · refine mz_aload_n X dX9_mayHave_4 rfl (mz_at hl 0 rfl) ?_
    refine mz_getI X hH fl_RX9_27 dX9_mayHave_5 hr (fun v1 hr => ?_)
    refine lv_iconst (v := 2) X.1 X.2.1 dX9_mayHave_8 (by decide) ?_
    refine mz_icmp_ne X 24 dX9_mayHave_9 (by decide) hr (fun hr => ?_) (fun hr => ?_)
    · exact pf_X9_mayHave_b24 r Y h a0 x1 _ _ hr H locs cells slots ls hH hS (mz_sub hl [0, 1] rfl) hc hs
    · refine lv_iload_n X.1 X.2.1 dX9_mayHave_12 rfl (mz_at hl 2 rfl) ?_
      refine lv_iconst (v := 2) X.1 X.2.1 dX9_mayHave_13 (by decide) ?_
      refine lv_iand X.1 X.2.1 dX9_mayHave_14 ?_
      refine mz_if_eq X 22 dX9_mayHave_15 (by decide) hr (fun hr => ?_) (fun hr => ?_)
      · refine lv_iconst (v := 0) X.1 X.2.1 dX9_mayHave_22 (by decide) ?_
        exact mz_zret Y dX9_mayHave_23 hH hS hc hs hr
      · refine lv_iconst (v := 1) X.1 X.2.1 dX9_mayHave_18 (by decide) ?_
        refine lv_goto (tgt := 23) X.1 X.2.1 dX9_mayHave_19 (by decide) ?_
        exact mz_zret Y dX9_mayHave_23 hH hS hc hs hr
set_option maxRecDepth 100000 in
theorem ct_X9_mayHave (l : Launch) (g : mz_G) (h : mz_H) (a0 : (Option Nat)) (x1 : Int32) (x2 : Int32) (r : Int32) (hf : mz_H) (k n : Nat) (hr : fn_X9_mayHave h a0 x1 x2 = some (r, hf, k, n)) : mz_C l g yX9_mayHave cX9_mayHave 3 (some .boolean) 0 0 [va_rf a0, .int x1, .int x2] h (some (Value.int r)) hf k n := by
  refine mz_met (as := [(false, va_rf a0), (false, .int x1), (false, .int x2)]) (plainFor_of_name (by decide)) (mz_c1 (mz_cat_rf _) (mz_c1 rfl (mz_c1 rfl mz_c0))) (Nat.le_of_ble_eq_true rfl) ?_
  intro p e s m args below meth c Y
  exact pf_X9_mayHave_b0 r Y h a0 x1 x2 _ _ hr
theorem dX9_laneMeant_0 : decode cX9_laneMeant 0 = .ok (.iload_n 1, 1) := by decide +kernel
theorem dX9_laneMeant_1 : decode cX9_laneMeant 1 = .ok (.bipush 9, 2) := by decide +kernel
theorem dX9_laneMeant_3 : decode cX9_laneMeant 3 = .ok (.if_icmp .ge 5, 3) := by decide +kernel
theorem dX9_laneMeant_6 : decode cX9_laneMeant 6 = .ok (.iload_n 1, 1) := by decide +kernel
theorem dX9_laneMeant_7 : decode cX9_laneMeant 7 = .ok (.ireturn, 1) := by decide +kernel
theorem dX9_laneMeant_8 : decode cX9_laneMeant 8 = .ok (.iload_n 1, 1) := by decide +kernel
theorem dX9_laneMeant_9 : decode cX9_laneMeant 9 = .ok (.bipush 9, 2) := by decide +kernel
theorem dX9_laneMeant_11 : decode cX9_laneMeant 11 = .ok (.isub, 1) := by decide +kernel
theorem dX9_laneMeant_12 : decode cX9_laneMeant 12 = .ok (.istore_n 2, 1) := by decide +kernel
theorem dX9_laneMeant_13 : decode cX9_laneMeant 13 = .ok (.iload_n 2, 1) := by decide +kernel
theorem dX9_laneMeant_14 : decode cX9_laneMeant 14 = .ok (.aload_n 0, 1) := by decide +kernel
theorem dX9_laneMeant_15 : decode cX9_laneMeant 15 = .ok (.getfield 49, 3) := by decide +kernel
theorem dX9_laneMeant_18 : decode cX9_laneMeant 18 = .ok (.if_icmp .ge 12, 3) := by decide +kernel
theorem dX9_laneMeant_21 : decode cX9_laneMeant 21 = .ok (.aload_n 0, 1) := by decide +kernel
theorem dX9_laneMeant_22 : decode cX9_laneMeant 22 = .ok (.getfield 15, 3) := by decide +kernel
theorem dX9_laneMeant_25 : decode cX9_laneMeant 25 = .ok (.iload_n 2, 1) := by decide +kernel
theorem dX9_laneMeant_26 : decode cX9_laneMeant 26 = .ok (.iaload, 1) := by decide +kernel
theorem dX9_laneMeant_27 : decode cX9_laneMeant 27 = .ok (.goto 5, 3) := by decide +kernel
theorem dX9_laneMeant_30 : decode cX9_laneMeant 30 = .ok (.bipush (-9), 2) := by decide +kernel
theorem dX9_laneMeant_32 : decode cX9_laneMeant 32 = .ok (.ireturn, 1) := by decide +kernel
def fn_X9_laneMeant (h : mz_H) (a0 : (Option Nat)) (x1 : Int32) : mz_Res Int32 :=
  if 9 ≤ x1 then
    mz_op (some (x1 - 9)) fun v1 =>
    mz_op (mz_fI h a0 8 6) fun v2 =>
    if v2 ≤ v1 then
      mz_ret (-9) h
    else
      mz_op (mz_fR h a0 8 5) fun v3 =>
      mz_op (mz_aI h v3 0 v1) fun v4 =>
      mz_ret v4 h
  else
    mz_ret x1 h
set_option maxHeartbeats 4000000 in
set_option maxRecDepth 100000 in
theorem pf_X9_laneMeant_b0 (r : Int32) (Y : mz_Y p g RX9 cX9_laneMeant 3 (some .int) "laneMeant" (mz_AF h0) s m args meth c) (h : mz_H) (a0 : (Option Nat)) (x1 : Int32) (dc ds : Nat) (hr : fn_X9_laneMeant h a0 x1 = some (r, hf, dc, ds)) : mz_Go l g p e s m args below meth c 0 0 DC DS h0 (some (Value.int r)) hf 3 0 [(0, false, va_rf a0), (1, false, .int x1)] [] h dc ds := by
  unfold fn_X9_laneMeant at hr
  intro H locs cells slots ls hH hS hl hc hs
  have X := Y.1
  refine lv_iload_n X.1 X.2.1 dX9_laneMeant_0 rfl (mz_at hl 1 rfl) ?_
  refine lv_bipush (v := 9) X.1 X.2.1 dX9_laneMeant_1 (by decide) ?_
  refine mz_icmp_ge X 8 dX9_laneMeant_3 (by decide) hr (fun hr => ?_) (fun hr => ?_)
  · refine lv_iload_n X.1 X.2.1 dX9_laneMeant_8 rfl (mz_at hl 1 rfl) ?_
    refine lv_bipush (v := 9) X.1 X.2.1 dX9_laneMeant_9 (by decide) ?_
    refine lv_isub X.1 X.2.1 dX9_laneMeant_11 ?_
    refine mz_topi hr (fun v1 hv1 hr => ?_)
    refine mz_istore_n X [(2, false, .int v1), (0, false, va_rf a0), (1, false, .int x1)] dX9_laneMeant_12 rfl hl (by decide) rfl (fun ls hl => ?_)
    refine lv_iload_n X.1 X.2.1 dX9_laneMeant_13 rfl (mz_at hl 0 rfl) ?_
    refine mz_aload_n X dX9_laneMeant_14 rfl (mz_at hl 1 rfl) ?_
    refine mz_getI X hH fl_RX9_49 dX9_laneMeant_15 hr (fun v2 hr => ?_)
    refine mz_icmp_ge X 30 dX9_laneMeant_18 (by decide) hr (fun hr => ?_) (fun hr => ?_)
    · refine lv_bipush (v := (-9)) X.1 X.2.1 dX9_laneMeant_30 (by decide) ?_
      exact mz_iret Y dX9_laneMeant_32 hH hS hc hs hr
    · refine mz_aload_n X dX9_laneMeant_21 rfl (mz_at hl 1 rfl) ?_
      refine mz_getR X hH fl_RX9_15 dX9_laneMeant_22 hr (fun v3 hr => ?_)
      refine lv_iload_n X.1 X.2.1 dX9_laneMeant_25 rfl (mz_at hl 0 rfl) ?_
      refine mz_iald X hH dX9_laneMeant_26 hr (fun v4 hr => ?_)
      refine lv_goto (tgt := 32) X.1 X.2.1 dX9_laneMeant_27 (by decide) ?_
      exact mz_iret Y dX9_laneMeant_32 hH hS hc hs hr
  · refine lv_iload_n X.1 X.2.1 dX9_laneMeant_6 rfl (mz_at hl 1 rfl) ?_
    exact mz_iret Y dX9_laneMeant_7 hH hS hc hs hr
set_option maxRecDepth 100000 in
theorem ct_X9_laneMeant (l : Launch) (g : mz_G) (h : mz_H) (a0 : (Option Nat)) (x1 : Int32) (r : Int32) (hf : mz_H) (k n : Nat) (hr : fn_X9_laneMeant h a0 x1 = some (r, hf, k, n)) : mz_C l g yX9_laneMeant cX9_laneMeant 3 (some .int) 0 0 [va_rf a0, .int x1] h (some (Value.int r)) hf k n := by
  refine mz_met (as := [(false, va_rf a0), (false, .int x1)]) (plainFor_of_name (by decide)) (mz_c1 (mz_cat_rf _) (mz_c1 rfl mz_c0)) (Nat.le_of_ble_eq_true rfl) ?_
  intro p e s m args below meth c Y
  exact pf_X9_laneMeant_b0 r Y h a0 x1 _ _ hr
theorem dX10_init_0 : decode cX10_init 0 = .ok (.aload_n 0, 1) := by decide +kernel
theorem dX10_init_1 : decode cX10_init 1 = .ok (.invokespecial 3, 3) := by decide +kernel
theorem dX10_init_4 : decode cX10_init 4 = .ok (.aload_n 0, 1) := by decide +kernel
theorem dX10_init_5 : decode cX10_init 5 = .ok (.bipush 40, 2) := by decide +kernel
theorem dX10_init_7 : decode cX10_init 7 = .ok (.anewarray 9, 3) := by decide +kernel
theorem dX10_init_10 : decode cX10_init 10 = .ok (.putfield 11, 3) := by decide +kernel
theorem dX10_init_13 : decode cX10_init 13 = .ok (.aload_n 0, 1) := by decide +kernel
theorem dX10_init_14 : decode cX10_init 14 = .ok (.bipush 40, 2) := by decide +kernel
theorem dX10_init_16 : decode cX10_init 16 = .ok (.newarray .int, 2) := by decide +kernel
theorem dX10_init_18 : decode cX10_init 18 = .ok (.putfield 17, 3) := by decide +kernel
theorem dX10_init_21 : decode cX10_init 21 = .ok (.aload_n 0, 1) := by decide +kernel
theorem dX10_init_22 : decode cX10_init 22 = .ok (.bipush 40, 2) := by decide +kernel
theorem dX10_init_24 : decode cX10_init 24 = .ok (.newarray .boolean, 2) := by decide +kernel
theorem dX10_init_26 : decode cX10_init 26 = .ok (.putfield 21, 3) := by decide +kernel
theorem dX10_init_29 : decode cX10_init 29 = .ok (.return_, 1) := by decide +kernel
def fn_X10_init (h : mz_H) (a0 : (Option Nat)) : mz_Res Unit :=
  mz_chk (a0).isSome <|
  mz_aN h 18 40 (.inr (.inr (.inr (.inr (fun _ => none))))) fun v1 h =>
  mz_op (mz_pF h a0 9 0 (va_rf v1)) fun h =>
  mz_aN h 0 40 (.inl (fun _ => 0)) fun v2 h =>
  mz_op (mz_pF h a0 9 2 (va_rf v2)) fun h =>
  mz_aN h 2 40 (.inl (fun _ => 0)) fun v3 h =>
  mz_op (mz_pF h a0 9 4 (va_rf v3)) fun h =>
  mz_ret () h
set_option maxHeartbeats 4000000 in
set_option maxRecDepth 100000 in
theorem pf_X10_init_b0 (r : Unit) (Y : mz_Y p g RX10 cX10_init 1 none "<init>" (mz_AF h0) s m args meth c) (h : mz_H) (a0 : (Option Nat)) (dc ds : Nat) (hr : fn_X10_init h a0 = some (r, hf, dc, ds)) : mz_Go l g p e s m args below meth c 1 20 DC DS h0 none hf 1 0 [(0, false, va_rf a0)] [] h dc ds := by
  unfold fn_X10_init at hr
  intro H locs cells slots ls hH hS hl hc hs
  have X := Y.1
  refine mz_aload_n X dX10_init_0 rfl (mz_at hl 0 rfl) ?_
  refine mz_oinit X hl.1.1 oi_RX10_3 (Nat.le_of_ble_eq_true rfl) ⟨Nat.le_of_ble_eq_true rfl, Nat.le_of_ble_eq_true rfl⟩ dX10_init_1 hr (fun hr => ?_)
  refine mz_aload_n X dX10_init_4 rfl (mz_at hl 0 rfl) ?_
  refine lv_bipush (v := 40) X.1 X.2.1 dX10_init_5 (by decide) ?_
  refine mz_kR (t := 18) X hH hS (by decide) rfl (by decide) (mz_tb 72 (by decide +kernel) rfl) dX10_init_7 hr hc hs (fun v1 h H cells slots dc ds hr hH hS hc hs => ?_)
  refine mz_putF X Y.2.2.2 hH hS fp_RX10_11 dX10_init_10 (mz_nra _ _).1 (mz_nra _ _).2 hr (fun h H locs hr hH hS => ?_)
  refine mz_aload_n X dX10_init_13 rfl (mz_at hl 0 rfl) ?_
  refine lv_bipush (v := 40) X.1 X.2.1 dX10_init_14 (by decide) ?_
  refine mz_kA (t := 0) X hH hS (by decide) rfl rfl (by decide) (mz_tb 93 (by decide +kernel) rfl) (fun _ _ => rfl) dX10_init_16 hr hc hs (fun v2 h H cells slots dc ds hr hH hS hc hs => ?_)
  refine mz_putF X Y.2.2.2 hH hS fp_RX10_17 dX10_init_18 (mz_nra _ _).1 (mz_nra _ _).2 hr (fun h H locs hr hH hS => ?_)
  refine mz_aload_n X dX10_init_21 rfl (mz_at hl 0 rfl) ?_
  refine lv_bipush (v := 40) X.1 X.2.1 dX10_init_22 (by decide) ?_
  refine mz_kA (t := 2) X hH hS (by decide) rfl rfl (by decide) (mz_tb 94 (by decide +kernel) rfl) (fun _ _ => rfl) dX10_init_24 hr hc hs (fun v3 h H cells slots dc ds hr hH hS hc hs => ?_)
  refine mz_putF X Y.2.2.2 hH hS fp_RX10_21 dX10_init_26 (mz_nra _ _).1 (mz_nra _ _).2 hr (fun h H locs hr hH hS => ?_)
  exact mz_vret Y dX10_init_29 hH hS hc hs hr
set_option maxRecDepth 100000 in
theorem ct_X10_init (l : Launch) (g : mz_G) (h : mz_H) (a0 : (Option Nat)) (r : Unit) (hf : mz_H) (k n : Nat) (hr : fn_X10_init h a0 = some (r, hf, k, n)) : mz_C l g yX10_init cX10_init 1 none 1 20 [va_rf a0] h none hf k n := by
  refine mz_met (as := [(false, va_rf a0)]) (plainFor_of_name (by decide)) (mz_c1 (mz_cat_rf _) mz_c0) (Nat.le_of_ble_eq_true rfl) ?_
  intro p e s m args below meth c Y
  exact pf_X10_init_b0 r Y h a0 _ _ hr
theorem dX10_add_0 : decode cX10_add 0 = .ok (.aload_n 0, 1) := by decide +kernel
theorem dX10_add_1 : decode cX10_add 1 = .ok (.getfield 25, 3) := by decide +kernel
theorem dX10_add_4 : decode cX10_add 4 = .ok (.aload_n 0, 1) := by decide +kernel
theorem dX10_add_5 : decode cX10_add 5 = .ok (.getfield 11, 3) := by decide +kernel
theorem dX10_add_8 : decode cX10_add 8 = .ok (.arraylength, 1) := by decide +kernel
theorem dX10_add_9 : decode cX10_add 9 = .ok (.if_icmp .lt 6, 3) := by decide +kernel
theorem dX10_add_12 : decode cX10_add 12 = .ok (.bipush (-4), 2) := by decide +kernel
theorem dX10_add_14 : decode cX10_add 14 = .ok (.ireturn, 1) := by decide +kernel
theorem dX10_add_15 : decode cX10_add 15 = .ok (.aload_n 0, 1) := by decide +kernel
theorem dX10_add_16 : decode cX10_add 16 = .ok (.getfield 11, 3) := by decide +kernel
theorem dX10_add_19 : decode cX10_add 19 = .ok (.aload_n 0, 1) := by decide +kernel
theorem dX10_add_20 : decode cX10_add 20 = .ok (.getfield 25, 3) := by decide +kernel
theorem dX10_add_23 : decode cX10_add 23 = .ok (.aload_n 1, 1) := by decide +kernel
theorem dX10_add_24 : decode cX10_add 24 = .ok (.aastore, 1) := by decide +kernel
theorem dX10_add_25 : decode cX10_add 25 = .ok (.aload_n 0, 1) := by decide +kernel
theorem dX10_add_26 : decode cX10_add 26 = .ok (.dup, 1) := by decide +kernel
theorem dX10_add_27 : decode cX10_add 27 = .ok (.getfield 25, 3) := by decide +kernel
theorem dX10_add_30 : decode cX10_add 30 = .ok (.iconst 1, 1) := by decide +kernel
theorem dX10_add_31 : decode cX10_add 31 = .ok (.iadd, 1) := by decide +kernel
theorem dX10_add_32 : decode cX10_add 32 = .ok (.putfield 25, 3) := by decide +kernel
theorem dX10_add_35 : decode cX10_add 35 = .ok (.aload_n 0, 1) := by decide +kernel
theorem dX10_add_36 : decode cX10_add 36 = .ok (.getfield 25, 3) := by decide +kernel
theorem dX10_add_39 : decode cX10_add 39 = .ok (.iconst 1, 1) := by decide +kernel
theorem dX10_add_40 : decode cX10_add 40 = .ok (.isub, 1) := by decide +kernel
theorem dX10_add_41 : decode cX10_add 41 = .ok (.ireturn, 1) := by decide +kernel
def fn_X10_add (h : mz_H) (a0 : (Option Nat)) (a1 : (Option Nat)) : mz_Res Int32 :=
  mz_op (mz_fI h a0 9 1) fun v1 =>
  mz_op (mz_fR h a0 9 0) fun v2 =>
  mz_op (mz_len h v2 18) fun v3 =>
  if v1 < v3 then
    mz_op (mz_fR h a0 9 0) fun v4 =>
    mz_op (mz_fI h a0 9 1) fun v5 =>
    mz_op (mz_sR h v4 18 v5 a1) fun h =>
    mz_op (mz_fI h a0 9 1) fun v6 =>
    mz_op (mz_pF h a0 9 1 (Value.int (v6 + 1))) fun h =>
    mz_op (mz_fI h a0 9 1) fun v7 =>
    mz_ret (v7 - 1) h
  else
    mz_ret (-4) h
set_option maxHeartbeats 4000000 in
set_option maxRecDepth 100000 in
theorem pf_X10_add_b0 (r : Int32) (Y : mz_Y p g RX10 cX10_add 2 (some .int) "add" (mz_AF h0) s m args meth c) (h : mz_H) (a0 : (Option Nat)) (a1 : (Option Nat)) (dc ds : Nat) (hr : fn_X10_add h a0 a1 = some (r, hf, dc, ds)) : mz_Go l g p e s m args below meth c 0 0 DC DS h0 (some (Value.int r)) hf 2 0 [(0, false, va_rf a0), (1, false, va_rf a1)] [] h dc ds := by
  unfold fn_X10_add at hr
  intro H locs cells slots ls hH hS hl hc hs
  have X := Y.1
  refine mz_aload_n X dX10_add_0 rfl (mz_at hl 0 rfl) ?_
  refine mz_getI X hH fl_RX10_25 dX10_add_1 hr (fun v1 hr => ?_)
  refine mz_aload_n X dX10_add_4 rfl (mz_at hl 0 rfl) ?_
  refine mz_getR X hH fl_RX10_11 dX10_add_5 hr (fun v2 hr => ?_)
  refine mz_alen (t := 18) X hH (by decide) dX10_add_8 hr (fun v3 hr => ?_)
  refine mz_icmp_lt X 15 dX10_add_9 (by decide) hr (fun hr => ?_) (fun hr => ?_)
  · refine mz_aload_n X dX10_add_15 rfl (mz_at hl 0 rfl) ?_
    refine mz_getR X hH fl_RX10_11 dX10_add_16 hr (fun v4 hr => ?_)
    refine mz_aload_n X dX10_add_19 rfl (mz_at hl 0 rfl) ?_
    refine mz_getI X hH fl_RX10_25 dX10_add_20 hr (fun v5 hr => ?_)
    refine mz_aload_n X dX10_add_23 rfl (mz_at hl 1 rfl) ?_
    refine mz_aast (t := 18) X hH hS (by decide) rfl rfl dX10_add_24 hr (fun h H locs hr hH hS => ?_)
    refine mz_aload_n X dX10_add_25 rfl (mz_at hl 0 rfl) ?_
    refine mz_dupR X dX10_add_26 ?_
    refine mz_getI X hH fl_RX10_25 dX10_add_27 hr (fun v6 hr => ?_)
    refine lv_iconst (v := 1) X.1 X.2.1 dX10_add_30 (by decide) ?_
    refine lv_iadd X.1 X.2.1 dX10_add_31 ?_
    refine mz_put X hH hS fp_RX10_25 dX10_add_32 rfl rfl hr (fun h H locs hr hH hS => ?_)
    refine mz_aload_n X dX10_add_35 rfl (mz_at hl 0 rfl) ?_
    refine mz_getI X hH fl_RX10_25 dX10_add_36 hr (fun v7 hr => ?_)
    refine lv_iconst (v := 1) X.1 X.2.1 dX10_add_39 (by decide) ?_
    refine lv_isub X.1 X.2.1 dX10_add_40 ?_
    exact mz_iret Y dX10_add_41 hH hS hc hs hr
  · refine lv_bipush (v := (-4)) X.1 X.2.1 dX10_add_12 (by decide) ?_
    exact mz_iret Y dX10_add_14 hH hS hc hs hr
set_option maxRecDepth 100000 in
theorem ct_X10_add (l : Launch) (g : mz_G) (h : mz_H) (a0 : (Option Nat)) (a1 : (Option Nat)) (r : Int32) (hf : mz_H) (k n : Nat) (hr : fn_X10_add h a0 a1 = some (r, hf, k, n)) : mz_C l g yX10_add cX10_add 2 (some .int) 0 0 [va_rf a0, va_rf a1] h (some (Value.int r)) hf k n := by
  refine mz_met (as := [(false, va_rf a0), (false, va_rf a1)]) (plainFor_of_name (by decide)) (mz_c1 (mz_cat_rf _) (mz_c1 (mz_cat_rf _) mz_c0)) (Nat.le_of_ble_eq_true rfl) ?_
  intro p e s m args below meth c Y
  exact pf_X10_add_b0 r Y h a0 a1 _ _ hr
theorem dX10_typeOf_0 : decode cX10_typeOf 0 = .ok (.iload_n 1, 1) := by decide +kernel
theorem dX10_typeOf_1 : decode cX10_typeOf 1 = .ok (.ifCond .lt 20, 3) := by decide +kernel
theorem dX10_typeOf_4 : decode cX10_typeOf 4 = .ok (.iload_n 1, 1) := by decide +kernel
theorem dX10_typeOf_5 : decode cX10_typeOf 5 = .ok (.aload_n 0, 1) := by decide +kernel
theorem dX10_typeOf_6 : decode cX10_typeOf 6 = .ok (.getfield 25, 3) := by decide +kernel
theorem dX10_typeOf_9 : decode cX10_typeOf 9 = .ok (.if_icmp .ge 12, 3) := by decide +kernel
theorem dX10_typeOf_12 : decode cX10_typeOf 12 = .ok (.aload_n 0, 1) := by decide +kernel
theorem dX10_typeOf_13 : decode cX10_typeOf 13 = .ok (.getfield 11, 3) := by decide +kernel
theorem dX10_typeOf_16 : decode cX10_typeOf 16 = .ok (.iload_n 1, 1) := by decide +kernel
theorem dX10_typeOf_17 : decode cX10_typeOf 17 = .ok (.aaload, 1) := by decide +kernel
theorem dX10_typeOf_18 : decode cX10_typeOf 18 = .ok (.goto 4, 3) := by decide +kernel
theorem dX10_typeOf_21 : decode cX10_typeOf 21 = .ok (.aconst_null, 1) := by decide +kernel
theorem dX10_typeOf_22 : decode cX10_typeOf 22 = .ok (.areturn, 1) := by decide +kernel
def fn_X10_typeOf (h : mz_H) (a0 : (Option Nat)) (x1 : Int32) : mz_Res (Option Nat) :=
  if x1 < 0 then
    mz_ret none h
  else
    mz_op (mz_fI h a0 9 1) fun v1 =>
    if v1 ≤ x1 then
      mz_ret none h
    else
      mz_op (mz_fR h a0 9 0) fun v2 =>
      mz_op (mz_aR h v2 18 x1) fun v3 =>
      mz_ret v3 h
set_option maxHeartbeats 4000000 in
set_option maxRecDepth 100000 in
theorem pf_X10_typeOf_b0 (r : (Option Nat)) (Y : mz_Y p g RX10 cX10_typeOf 2 (some (.object "MemberScanner$Type")) "typeOf" (mz_AF h0) s m args meth c) (h : mz_H) (a0 : (Option Nat)) (x1 : Int32) (dc ds : Nat) (hr : fn_X10_typeOf h a0 x1 = some (r, hf, dc, ds)) : mz_Go l g p e s m args below meth c 0 0 DC DS h0 (some (va_rf r)) hf 2 0 [(0, false, va_rf a0), (1, false, .int x1)] [] h dc ds := by
  unfold fn_X10_typeOf at hr
  intro H locs cells slots ls hH hS hl hc hs
  have X := Y.1
  refine lv_iload_n X.1 X.2.1 dX10_typeOf_0 rfl (mz_at hl 1 rfl) ?_
  refine mz_if_lt X 21 dX10_typeOf_1 (by decide) hr (fun hr => ?_) (fun hr => ?_)
  · refine mz_null X dX10_typeOf_21 ?_
    exact mz_aret Y dX10_typeOf_22 hH hS hc hs hr
  · refine lv_iload_n X.1 X.2.1 dX10_typeOf_4 rfl (mz_at hl 1 rfl) ?_
    refine mz_aload_n X dX10_typeOf_5 rfl (mz_at hl 0 rfl) ?_
    refine mz_getI X hH fl_RX10_25 dX10_typeOf_6 hr (fun v1 hr => ?_)
    refine mz_icmp_ge X 21 dX10_typeOf_9 (by decide) hr (fun hr => ?_) (fun hr => ?_)
    · refine mz_null X dX10_typeOf_21 ?_
      exact mz_aret Y dX10_typeOf_22 hH hS hc hs hr
    · refine mz_aload_n X dX10_typeOf_12 rfl (mz_at hl 0 rfl) ?_
      refine mz_getR X hH fl_RX10_11 dX10_typeOf_13 hr (fun v2 hr => ?_)
      refine lv_iload_n X.1 X.2.1 dX10_typeOf_16 rfl (mz_at hl 1 rfl) ?_
      refine mz_aald (t := 18) X hH (by decide) rfl dX10_typeOf_17 hr (fun v3 hr => ?_)
      refine lv_goto (tgt := 22) X.1 X.2.1 dX10_typeOf_18 (by decide) ?_
      exact mz_aret Y dX10_typeOf_22 hH hS hc hs hr
set_option maxRecDepth 100000 in
theorem ct_X10_typeOf (l : Launch) (g : mz_G) (h : mz_H) (a0 : (Option Nat)) (x1 : Int32) (r : (Option Nat)) (hf : mz_H) (k n : Nat) (hr : fn_X10_typeOf h a0 x1 = some (r, hf, k, n)) : mz_C l g yX10_typeOf cX10_typeOf 2 (some (.object "MemberScanner$Type")) 0 0 [va_rf a0, .int x1] h (some (va_rf r)) hf k n := by
  refine mz_met (as := [(false, va_rf a0), (false, .int x1)]) (plainFor_of_name (by decide)) (mz_c1 (mz_cat_rf _) (mz_c1 rfl mz_c0)) (Nat.le_of_ble_eq_true rfl) ?_
  intro p e s m args below meth c Y
  exact pf_X10_typeOf_b0 r Y h a0 x1 _ _ hr
theorem dX10_meet_0 : decode cX10_meet 0 = .ok (.aload_n 0, 1) := by decide +kernel
theorem dX10_meet_1 : decode cX10_meet 1 = .ok (.iload_n 1, 1) := by decide +kernel
theorem dX10_meet_2 : decode cX10_meet 2 = .ok (.invokevirtual 47, 3) := by decide +kernel
theorem dX10_meet_5 : decode cX10_meet 5 = .ok (.ifnull 24, 3) := by decide +kernel
theorem dX10_meet_8 : decode cX10_meet 8 = .ok (.aload_n 0, 1) := by decide +kernel
theorem dX10_meet_9 : decode cX10_meet 9 = .ok (.getfield 21, 3) := by decide +kernel
theorem dX10_meet_12 : decode cX10_meet 12 = .ok (.iload_n 1, 1) := by decide +kernel
theorem dX10_meet_13 : decode cX10_meet 13 = .ok (.baload, 1) := by decide +kernel
theorem dX10_meet_14 : decode cX10_meet 14 = .ok (.ifCond .ne 15, 3) := by decide +kernel
theorem dX10_meet_17 : decode cX10_meet 17 = .ok (.aload_n 0, 1) := by decide +kernel
theorem dX10_meet_18 : decode cX10_meet 18 = .ok (.getfield 29, 3) := by decide +kernel
theorem dX10_meet_21 : decode cX10_meet 21 = .ok (.aload_n 0, 1) := by decide +kernel
theorem dX10_meet_22 : decode cX10_meet 22 = .ok (.getfield 17, 3) := by decide +kernel
theorem dX10_meet_25 : decode cX10_meet 25 = .ok (.arraylength, 1) := by decide +kernel
theorem dX10_meet_26 : decode cX10_meet 26 = .ok (.if_icmp .lt 5, 3) := by decide +kernel
theorem dX10_meet_29 : decode cX10_meet 29 = .ok (.iconst 0, 1) := by decide +kernel
theorem dX10_meet_30 : decode cX10_meet 30 = .ok (.ireturn, 1) := by decide +kernel
theorem dX10_meet_31 : decode cX10_meet 31 = .ok (.aload_n 0, 1) := by decide +kernel
theorem dX10_meet_32 : decode cX10_meet 32 = .ok (.getfield 21, 3) := by decide +kernel
theorem dX10_meet_35 : decode cX10_meet 35 = .ok (.iload_n 1, 1) := by decide +kernel
theorem dX10_meet_36 : decode cX10_meet 36 = .ok (.iconst 1, 1) := by decide +kernel
theorem dX10_meet_37 : decode cX10_meet 37 = .ok (.bastore, 1) := by decide +kernel
theorem dX10_meet_38 : decode cX10_meet 38 = .ok (.aload_n 0, 1) := by decide +kernel
theorem dX10_meet_39 : decode cX10_meet 39 = .ok (.getfield 17, 3) := by decide +kernel
theorem dX10_meet_42 : decode cX10_meet 42 = .ok (.aload_n 0, 1) := by decide +kernel
theorem dX10_meet_43 : decode cX10_meet 43 = .ok (.getfield 29, 3) := by decide +kernel
theorem dX10_meet_46 : decode cX10_meet 46 = .ok (.iload_n 1, 1) := by decide +kernel
theorem dX10_meet_47 : decode cX10_meet 47 = .ok (.iastore, 1) := by decide +kernel
theorem dX10_meet_48 : decode cX10_meet 48 = .ok (.aload_n 0, 1) := by decide +kernel
theorem dX10_meet_49 : decode cX10_meet 49 = .ok (.dup, 1) := by decide +kernel
theorem dX10_meet_50 : decode cX10_meet 50 = .ok (.getfield 29, 3) := by decide +kernel
theorem dX10_meet_53 : decode cX10_meet 53 = .ok (.iconst 1, 1) := by decide +kernel
theorem dX10_meet_54 : decode cX10_meet 54 = .ok (.iadd, 1) := by decide +kernel
theorem dX10_meet_55 : decode cX10_meet 55 = .ok (.putfield 29, 3) := by decide +kernel
theorem dX10_meet_58 : decode cX10_meet 58 = .ok (.iconst 1, 1) := by decide +kernel
theorem dX10_meet_59 : decode cX10_meet 59 = .ok (.ireturn, 1) := by decide +kernel
def fn_X10_meet (h : mz_H) (a0 : (Option Nat)) (x1 : Int32) : mz_Res Int32 :=
  mz_chk (mz_is h a0 9) <| mz_call (fn_X10_typeOf h a0 x1) fun v1 h =>
  if v1 = none then
    mz_chk ((0 : Int32) &&& 1 == 0) (mz_ret 0 h)
  else
    mz_op (mz_fR h a0 9 4) fun v2 =>
    mz_op (mz_aI h v2 2 x1) fun v3 =>
    if v3 = 0 then
      mz_op (mz_fI h a0 9 3) fun v4 =>
      mz_op (mz_fR h a0 9 2) fun v5 =>
      mz_op (mz_len h v5 0) fun v6 =>
      if v4 < v6 then
        mz_op (mz_fR h a0 9 4) fun v7 =>
        mz_op (mz_sI h v7 2 x1 (1 &&& 1)) fun h =>
        mz_op (mz_fR h a0 9 2) fun v8 =>
        mz_op (mz_fI h a0 9 3) fun v9 =>
        mz_op (mz_sI h v8 0 v9 x1) fun h =>
        mz_op (mz_fI h a0 9 3) fun v10 =>
        mz_op (mz_pF h a0 9 3 (Value.int (v10 + 1))) fun h =>
        mz_chk ((1 : Int32) &&& 1 == 1) (mz_ret 1 h)
      else
        mz_chk ((0 : Int32) &&& 1 == 0) (mz_ret 0 h)
    else
      mz_chk ((0 : Int32) &&& 1 == 0) (mz_ret 0 h)
set_option maxHeartbeats 4000000 in
set_option maxRecDepth 100000 in
theorem pf_X10_meet_b0 (r : Int32) (Y : mz_Y p g RX10 cX10_meet 2 (some .boolean) "meet" (mz_AF h0) s m args meth c) (h : mz_H) (a0 : (Option Nat)) (x1 : Int32) (dc ds : Nat) (hr : fn_X10_meet h a0 x1 = some (r, hf, dc, ds)) : mz_Go l g p e s m args below meth c 1 21 DC DS h0 (some (Value.int r)) hf 2 0 [(0, false, va_rf a0), (1, false, .int x1)] [] h dc ds := by
  unfold fn_X10_meet at hr
  intro H locs cells slots ls hH hS hl hc hs
  have X := Y.1
  refine mz_aload_n X dX10_meet_0 rfl (mz_at hl 0 rfl) ?_
  refine lv_iload_n X.1 X.2.1 dX10_meet_1 rfl (mz_at hl 1 rfl) ?_
  refine mz_kV va_rf X hH hS hl.1.1 [.int x1] [] hr (ct_X10_typeOf l g h a0 x1) mb_RX10_47 rfl im_X10_typeOf rfl (Nat.le_of_ble_eq_true rfl) ⟨Nat.le_of_ble_eq_true rfl, Nat.le_of_ble_eq_true rfl⟩ hc hs dX10_meet_2 rfl (fun v1 h H locs cells slots dc ds hr hH hS hc hs => ?_)
  refine mz_ifnull X 29 dX10_meet_5 (by decide) hr (fun hr => ?_) (fun hr => ?_)
  · refine lv_iconst (v := 0) X.1 X.2.1 dX10_meet_29 (by decide) ?_
    exact mz_zret Y dX10_meet_30 hH hS hc hs hr
  · refine mz_aload_n X dX10_meet_8 rfl (mz_at hl 0 rfl) ?_
    refine mz_getR X hH fl_RX10_21 dX10_meet_9 hr (fun v2 hr => ?_)
    refine lv_iload_n X.1 X.2.1 dX10_meet_12 rfl (mz_at hl 1 rfl) ?_
    refine mz_zald X hH dX10_meet_13 hr (fun v3 hr => ?_)
    refine mz_if_ne X 29 dX10_meet_14 (by decide) hr (fun hr => ?_) (fun hr => ?_)
    · refine lv_iconst (v := 0) X.1 X.2.1 dX10_meet_29 (by decide) ?_
      exact mz_zret Y dX10_meet_30 hH hS hc hs hr
    · refine mz_aload_n X dX10_meet_17 rfl (mz_at hl 0 rfl) ?_
      refine mz_getI X hH fl_RX10_29 dX10_meet_18 hr (fun v4 hr => ?_)
      refine mz_aload_n X dX10_meet_21 rfl (mz_at hl 0 rfl) ?_
      refine mz_getR X hH fl_RX10_17 dX10_meet_22 hr (fun v5 hr => ?_)
      refine mz_alen (t := 0) X hH (by decide) dX10_meet_25 hr (fun v6 hr => ?_)
      refine mz_icmp_lt X 31 dX10_meet_26 (by decide) hr (fun hr => ?_) (fun hr => ?_)
      · refine mz_aload_n X dX10_meet_31 rfl (mz_at hl 0 rfl) ?_
        refine mz_getR X hH fl_RX10_21 dX10_meet_32 hr (fun v7 hr => ?_)
        refine lv_iload_n X.1 X.2.1 dX10_meet_35 rfl (mz_at hl 1 rfl) ?_
        refine lv_iconst (v := 1) X.1 X.2.1 dX10_meet_36 (by decide) ?_
        refine mz_zast X hH hS dX10_meet_37 hr (fun h H locs hr hH hS => ?_)
        refine mz_aload_n X dX10_meet_38 rfl (mz_at hl 0 rfl) ?_
        refine mz_getR X hH fl_RX10_17 dX10_meet_39 hr (fun v8 hr => ?_)
        refine mz_aload_n X dX10_meet_42 rfl (mz_at hl 0 rfl) ?_
        refine mz_getI X hH fl_RX10_29 dX10_meet_43 hr (fun v9 hr => ?_)
        refine lv_iload_n X.1 X.2.1 dX10_meet_46 rfl (mz_at hl 1 rfl) ?_
        refine mz_iast X hH hS dX10_meet_47 hr (fun h H locs hr hH hS => ?_)
        refine mz_aload_n X dX10_meet_48 rfl (mz_at hl 0 rfl) ?_
        refine mz_dupR X dX10_meet_49 ?_
        refine mz_getI X hH fl_RX10_29 dX10_meet_50 hr (fun v10 hr => ?_)
        refine lv_iconst (v := 1) X.1 X.2.1 dX10_meet_53 (by decide) ?_
        refine lv_iadd X.1 X.2.1 dX10_meet_54 ?_
        refine mz_put X hH hS fp_RX10_29 dX10_meet_55 rfl rfl hr (fun h H locs hr hH hS => ?_)
        refine lv_iconst (v := 1) X.1 X.2.1 dX10_meet_58 (by decide) ?_
        exact mz_zret Y dX10_meet_59 hH hS hc hs hr
      · refine lv_iconst (v := 0) X.1 X.2.1 dX10_meet_29 (by decide) ?_
        exact mz_zret Y dX10_meet_30 hH hS hc hs hr
set_option maxRecDepth 100000 in
theorem ct_X10_meet (l : Launch) (g : mz_G) (h : mz_H) (a0 : (Option Nat)) (x1 : Int32) (r : Int32) (hf : mz_H) (k n : Nat) (hr : fn_X10_meet h a0 x1 = some (r, hf, k, n)) : mz_C l g yX10_meet cX10_meet 2 (some .boolean) 1 21 [va_rf a0, .int x1] h (some (Value.int r)) hf k n := by
  refine mz_met (as := [(false, va_rf a0), (false, .int x1)]) (plainFor_of_name (by decide)) (mz_c1 (mz_cat_rf _) (mz_c1 rfl mz_c0)) (Nat.le_of_ble_eq_true rfl) ?_
  intro p e s m args below meth c Y
  exact pf_X10_meet_b0 r Y h a0 x1 _ _ hr
theorem dX10_meetGuises_0 : decode cX10_meetGuises 0 = .ok (.aload_n 0, 1) := by decide +kernel
theorem dX10_meetGuises_1 : decode cX10_meetGuises 1 = .ok (.iload_n 1, 1) := by decide +kernel
theorem dX10_meetGuises_2 : decode cX10_meetGuises 2 = .ok (.invokevirtual 47, 3) := by decide +kernel
theorem dX10_meetGuises_5 : decode cX10_meetGuises 5 = .ok (.astore_n 3, 1) := by decide +kernel
theorem dX10_meetGuises_6 : decode cX10_meetGuises 6 = .ok (.aload_n 3, 1) := by decide +kernel
theorem dX10_meetGuises_7 : decode cX10_meetGuises 7 = .ok (.ifnull 9, 3) := by decide +kernel
theorem dX10_meetGuises_10 : decode cX10_meetGuises 10 = .ok (.iload_n 2, 1) := by decide +kernel
theorem dX10_meetGuises_11 : decode cX10_meetGuises 11 = .ok (.bipush 40, 2) := by decide +kernel
theorem dX10_meetGuises_13 : decode cX10_meetGuises 13 = .ok (.if_icmp .le 4, 3) := by decide +kernel
theorem dX10_meetGuises_16 : decode cX10_meetGuises 16 = .ok (.return_, 1) := by decide +kernel
theorem dX10_meetGuises_17 : decode cX10_meetGuises 17 = .ok (.iconst 0, 1) := by decide +kernel
theorem dX10_meetGuises_18 : decode cX10_meetGuises 18 = .ok (.istore 4, 2) := by decide +kernel
theorem dX10_meetGuises_20 : decode cX10_meetGuises 20 = .ok (.iload 4, 2) := by decide +kernel
theorem dX10_meetGuises_22 : decode cX10_meetGuises 22 = .ok (.aload_n 3, 1) := by decide +kernel
theorem dX10_meetGuises_23 : decode cX10_meetGuises 23 = .ok (.getfield 55, 3) := by decide +kernel
theorem dX10_meetGuises_26 : decode cX10_meetGuises 26 = .ok (.if_icmp .ge 37, 3) := by decide +kernel
theorem dX10_meetGuises_29 : decode cX10_meetGuises 29 = .ok (.aload_n 0, 1) := by decide +kernel
theorem dX10_meetGuises_30 : decode cX10_meetGuises 30 = .ok (.aload_n 3, 1) := by decide +kernel
theorem dX10_meetGuises_31 : decode cX10_meetGuises 31 = .ok (.getfield 58, 3) := by decide +kernel
theorem dX10_meetGuises_34 : decode cX10_meetGuises 34 = .ok (.iload 4, 2) := by decide +kernel
theorem dX10_meetGuises_36 : decode cX10_meetGuises 36 = .ok (.iaload, 1) := by decide +kernel
theorem dX10_meetGuises_37 : decode cX10_meetGuises 37 = .ok (.invokevirtual 32, 3) := by decide +kernel
theorem dX10_meetGuises_40 : decode cX10_meetGuises 40 = .ok (.ifCond .eq 17, 3) := by decide +kernel
theorem dX10_meetGuises_43 : decode cX10_meetGuises 43 = .ok (.aload_n 0, 1) := by decide +kernel
theorem dX10_meetGuises_44 : decode cX10_meetGuises 44 = .ok (.aload_n 3, 1) := by decide +kernel
theorem dX10_meetGuises_45 : decode cX10_meetGuises 45 = .ok (.getfield 58, 3) := by decide +kernel
theorem dX10_meetGuises_48 : decode cX10_meetGuises 48 = .ok (.iload 4, 2) := by decide +kernel
theorem dX10_meetGuises_50 : decode cX10_meetGuises 50 = .ok (.iaload, 1) := by decide +kernel
theorem dX10_meetGuises_51 : decode cX10_meetGuises 51 = .ok (.iload_n 2, 1) := by decide +kernel
theorem dX10_meetGuises_52 : decode cX10_meetGuises 52 = .ok (.iconst 1, 1) := by decide +kernel
theorem dX10_meetGuises_53 : decode cX10_meetGuises 53 = .ok (.iadd, 1) := by decide +kernel
theorem dX10_meetGuises_54 : decode cX10_meetGuises 54 = .ok (.invokevirtual 39, 3) := by decide +kernel
theorem dX10_meetGuises_57 : decode cX10_meetGuises 57 = .ok (.iinc 4 1, 3) := by decide +kernel
theorem dX10_meetGuises_60 : decode cX10_meetGuises 60 = .ok (.goto (-40), 3) := by decide +kernel
theorem dX10_meetGuises_63 : decode cX10_meetGuises 63 = .ok (.return_, 1) := by decide +kernel
def fn_X10_meetGuises_b57 (self : mz_H → Option Nat → Int32 → Int32 → mz_Res Unit) (rc20 : mz_H → (Option Nat) → Int32 → (Option Nat) → Int32 → mz_Res Unit) (h : mz_H) (a0 : (Option Nat)) (x2 : Int32) (a3 : (Option Nat)) (x4 : Int32) : mz_Res Unit :=
  mz_op (some (x4 + 1)) fun v1 =>
  rc20 h a0 x2 a3 v1
set_option maxHeartbeats 4000000 in
set_option maxRecDepth 100000 in
theorem pf_X10_meetGuises_b57 (r : Unit) (Y : mz_Y p g RX10 cX10_meetGuises 5 none "meetGuises" (mz_AF h0) s m args meth c) {fr lo : Nat} (hfr : 4 ≤ fr) (hlo : 120 ≤ lo) {self : mz_H → Option Nat → Int32 → Int32 → mz_Res Unit} (hself : ∀ (h : mz_H) (a0 : Option Nat) (x1 x2 : Int32) (r : Unit) (hf : mz_H) (k n : Nat), self h a0 x1 x2 = some (r, hf, k, n) → mz_C l g yX10_meetGuises cX10_meetGuises 5 none fr lo [va_rf a0, .int x1, .int x2] h none hf k n) {rc20 : mz_H → (Option Nat) → Int32 → (Option Nat) → Int32 → mz_Res Unit} (hrc20 : ∀ (h : mz_H) (a0 : (Option Nat)) (x2 : Int32) (a3 : (Option Nat)) (x4 : Int32) (dc ds : Nat), rc20 h a0 x2 a3 x4 = some (r, hf, dc, ds) → mz_Go l g p e s m args below meth c (fr + 1) (lo + 40) DC DS h0 none hf 5 20 [(0, false, va_rf a0), (2, false, .int x2), (3, false, va_rf a3), (4, false, .int x4)] [] h dc ds) (h : mz_H) (a0 : (Option Nat)) (x2 : Int32) (a3 : (Option Nat)) (x4 : Int32) (dc ds : Nat) (hr : fn_X10_meetGuises_b57 self rc20 h a0 x2 a3 x4 = some (r, hf, dc, ds)) : mz_Go l g p e s m args below meth c (fr + 1) (lo + 40) DC DS h0 none hf 5 57 [(0, false, va_rf a0), (2, false, .int x2), (3, false, va_rf a3), (4, false, .int x4)] [] h dc ds := by
  unfold fn_X10_meetGuises_b57 at hr
  intro H locs cells slots ls hH hS hl hc hs
  have X := Y.1
  obtain ⟨v1, hv1, hr⟩ := mz_op_some hr
  have hv1 := Option.some.inj hv1
  refine mz_iinc (k := 3) X [(4, false, .int v1), (0, false, va_rf a0), (2, false, .int x2), (3, false, va_rf a3)] v1 dX10_meetGuises_57 hl rfl hv1 (by decide) rfl (fun ls hl => ?_)
  refine lv_goto (tgt := 20) X.1 X.2.1 dX10_meetGuises_60 (by decide) ?_
  exact hrc20 h a0 x2 a3 v1 _ _ hr H locs cells slots ls hH hS (mz_sub hl [1, 2, 3, 0] rfl) hc hs
def fn_X10_meetGuises_b20 (self : mz_H → Option Nat → Int32 → Int32 → mz_Res Unit) : Nat → mz_H → (Option Nat) → Int32 → (Option Nat) → Int32 → mz_Res Unit
  | 0, _, _, _, _, _ => none
  | n + 1, h, a0, x2, a3, x4 =>
    mz_op (mz_fI h a3 8 4) fun v1 =>
    if v1 ≤ x4 then
      mz_ret () h
    else
      mz_op (mz_fR h a3 8 3) fun v2 =>
      mz_op (mz_aI h v2 0 x4) fun v3 =>
      mz_chk (mz_is h a0 9) <| mz_call (fn_X10_meet h a0 v3) fun v4 h =>
      if v4 = 0 then
        fn_X10_meetGuises_b57 self (fn_X10_meetGuises_b20 self n) h a0 x2 a3 x4
      else
        mz_op (mz_fR h a3 8 3) fun v5 =>
        mz_op (mz_aI h v5 0 x4) fun v6 =>
        mz_chk (mz_is h a0 9) <| mz_call (self h a0 v6 (x2 + 1)) fun _ h =>
        fn_X10_meetGuises_b57 self (fn_X10_meetGuises_b20 self n) h a0 x2 a3 x4
set_option maxHeartbeats 4000000 in
set_option maxRecDepth 100000 in
theorem pf_X10_meetGuises_b20 (r : Unit) (Y : mz_Y p g RX10 cX10_meetGuises 5 none "meetGuises" (mz_AF h0) s m args meth c) {fr lo : Nat} (hfr : 4 ≤ fr) (hlo : 120 ≤ lo) {self : mz_H → Option Nat → Int32 → Int32 → mz_Res Unit} (hself : ∀ (h : mz_H) (a0 : Option Nat) (x1 x2 : Int32) (r : Unit) (hf : mz_H) (k n : Nat), self h a0 x1 x2 = some (r, hf, k, n) → mz_C l g yX10_meetGuises cX10_meetGuises 5 none fr lo [va_rf a0, .int x1, .int x2] h none hf k n) : ∀ (n : Nat) (h : mz_H) (a0 : (Option Nat)) (x2 : Int32) (a3 : (Option Nat)) (x4 : Int32) (dc ds : Nat), fn_X10_meetGuises_b20 self n h a0 x2 a3 x4 = some (r, hf, dc, ds) → mz_Go l g p e s m args below meth c (fr + 1) (lo + 40) DC DS h0 none hf 5 20 [(0, false, va_rf a0), (2, false, .int x2), (3, false, va_rf a3), (4, false, .int x4)] [] h dc ds := by
  have X := Y.1
  intro n
  induction n with
  | zero => intro h a0 x2 a3 x4 dc ds hr; simp [fn_X10_meetGuises_b20] at hr
  | succ n ih =>
    intro h a0 x2 a3 x4 dc ds hr
    rw [fn_X10_meetGuises_b20] at hr
    intro H locs cells slots ls hH hS hl hc hs
    refine lv_iload X.1 X.2.1 dX10_meetGuises_20 (mz_at hl 3 rfl) ?_
    refine mz_aload_n X dX10_meetGuises_22 rfl (mz_at hl 2 rfl) ?_
    refine mz_getI X hH fl_RX10_55 dX10_meetGuises_23 hr (fun v1 hr => ?_)
    refine mz_icmp_ge X 63 dX10_meetGuises_26 (by decide) hr (fun hr => ?_) (fun hr => ?_)
    · exact mz_vret Y dX10_meetGuises_63 hH hS hc hs hr
    · refine mz_aload_n X dX10_meetGuises_29 rfl (mz_at hl 0 rfl) ?_
      refine mz_aload_n X dX10_meetGuises_30 rfl (mz_at hl 2 rfl) ?_
      refine mz_getR X hH fl_RX10_58 dX10_meetGuises_31 hr (fun v2 hr => ?_)
      refine lv_iload X.1 X.2.1 dX10_meetGuises_34 (mz_at hl 3 rfl) ?_
      refine mz_iald X hH dX10_meetGuises_36 hr (fun v3 hr => ?_)
      refine mz_kV Value.int X hH hS hl.1.1 [.int v3] [] hr (ct_X10_meet l g h a0 v3) mb_RX10_32 rfl im_X10_meet rfl (Nat.le_of_ble_eq_true rfl) ⟨(by show _ ≤ fr + 1; omega), (by show _ ≤ lo + 40; omega)⟩ hc hs dX10_meetGuises_37 rfl (fun v4 h H locs cells slots dc ds hr hH hS hc hs => ?_)
      refine mz_if_eq X 57 dX10_meetGuises_40 (by decide) hr (fun hr => ?_) (fun hr => ?_)
      · exact pf_X10_meetGuises_b57 r Y hfr hlo hself ih h a0 x2 a3 x4 _ _ hr H locs cells slots ls hH hS (mz_sub hl [0, 1, 2, 3] rfl) hc hs
      · refine mz_aload_n X dX10_meetGuises_43 rfl (mz_at hl 0 rfl) ?_
        refine mz_aload_n X dX10_meetGuises_44 rfl (mz_at hl 2 rfl) ?_
        refine mz_getR X hH fl_RX10_58 dX10_meetGuises_45 hr (fun v5 hr => ?_)
        refine lv_iload X.1 X.2.1 dX10_meetGuises_48 (mz_at hl 3 rfl) ?_
        refine mz_iald X hH dX10_meetGuises_50 hr (fun v6 hr => ?_)
        refine lv_iload_n X.1 X.2.1 dX10_meetGuises_51 rfl (mz_at hl 1 rfl) ?_
        refine lv_iconst (v := 1) X.1 X.2.1 dX10_meetGuises_52 (by decide) ?_
        refine lv_iadd X.1 X.2.1 dX10_meetGuises_53 ?_
        refine mz_kV0 X hH hS hl.1.1 [.int v6, .int (x2 + 1)] [] hr (hself _ a0 v6 (x2 + 1)) mb_RX10_39 rfl im_X10_meetGuises rfl (Nat.le_of_ble_eq_true rfl) ⟨(by show _ ≤ fr + 1; omega), (by show _ ≤ lo + 40; omega)⟩ hc hs dX10_meetGuises_54 rfl (fun _ h H locs cells slots dc ds hr hH hS hc hs => ?_)
        exact pf_X10_meetGuises_b57 r Y hfr hlo hself ih h a0 x2 a3 x4 _ _ hr H locs cells slots ls hH hS (mz_sub hl [0, 1, 2, 3] rfl) hc hs
def fn_X10_meetGuises : Nat → mz_H → (Option Nat) → Int32 → Int32 → mz_Res Unit
  | 0, _, _, _, _ => none
  | n + 1, h, a0, x1, x2 =>
    mz_chk (mz_is h a0 9) <| mz_call (fn_X10_typeOf h a0 x1) fun v1 h =>
    if v1 = none then
      mz_ret () h
    else
      if x2 ≤ 40 then
        fn_X10_meetGuises_b20 (fn_X10_meetGuises n) 1001 h a0 x2 v1 0
      else
        mz_ret () h
set_option maxHeartbeats 4000000 in
set_option maxRecDepth 100000 in
theorem pf_X10_meetGuises_b0 (r : Unit) (Y : mz_Y p g RX10 cX10_meetGuises 5 none "meetGuises" (mz_AF h0) s m args meth c) {fr lo : Nat} (hfr : 4 ≤ fr) (hlo : 120 ≤ lo) {self : mz_H → Option Nat → Int32 → Int32 → mz_Res Unit} (hself : ∀ (h : mz_H) (a0 : Option Nat) (x1 x2 : Int32) (r : Unit) (hf : mz_H) (k n : Nat), self h a0 x1 x2 = some (r, hf, k, n) → mz_C l g yX10_meetGuises cX10_meetGuises 5 none fr lo [va_rf a0, .int x1, .int x2] h none hf k n) (h : mz_H) (a0 : (Option Nat)) (x1 : Int32) (x2 : Int32) (dc ds : Nat) (hr : (mz_chk (mz_is h a0 9) <| mz_call (fn_X10_typeOf h a0 x1) fun v1 h =>
    if v1 = none then
      mz_ret () h
    else
      if x2 ≤ 40 then
        fn_X10_meetGuises_b20 self 1001 h a0 x2 v1 0
      else
        mz_ret () h) = some (r, hf, dc, ds)) : mz_Go l g p e s m args below meth c (fr + 1) (lo + 40) DC DS h0 none hf 5 0 [(0, false, va_rf a0), (1, false, .int x1), (2, false, .int x2)] [] h dc ds := by
  intro H locs cells slots ls hH hS hl hc hs
  have X := Y.1
  refine mz_aload_n X dX10_meetGuises_0 rfl (mz_at hl 0 rfl) ?_
  refine lv_iload_n X.1 X.2.1 dX10_meetGuises_1 rfl (mz_at hl 1 rfl) ?_
  refine mz_kV va_rf X hH hS hl.1.1 [.int x1] [] hr (ct_X10_typeOf l g h a0 x1) mb_RX10_47 rfl im_X10_typeOf rfl (Nat.le_of_ble_eq_true rfl) ⟨(by show _ ≤ fr + 1; omega), (by show _ ≤ lo + 40; omega)⟩ hc hs dX10_meetGuises_2 rfl (fun v1 h H locs cells slots dc ds hr hH hS hc hs => ?_)
  refine mz_astore_n X [(3, false, va_rf v1), (0, false, va_rf a0), (1, false, .int x1), (2, false, .int x2)] dX10_meetGuises_5 rfl hl (by decide) rfl (fun ls hl => ?_)
  refine mz_aload_n X dX10_meetGuises_6 rfl (mz_at hl 0 rfl) ?_
  refine mz_ifnull X 16 dX10_meetGuises_7 (by decide) hr (fun hr => ?_) (fun hr => ?_)
  · exact mz_vret Y dX10_meetGuises_16 hH hS hc hs hr
  · refine lv_iload_n X.1 X.2.1 dX10_meetGuises_10 rfl (mz_at hl 3 rfl) ?_
    refine lv_bipush (v := 40) X.1 X.2.1 dX10_meetGuises_11 (by decide) ?_
    refine mz_icmp_le X 17 dX10_meetGuises_13 (by decide) hr (fun hr => ?_) (fun hr => ?_)
    · refine lv_iconst (v := 0) X.1 X.2.1 dX10_meetGuises_17 (by decide) ?_
      refine mz_istore X [(4, false, .int 0), (3, false, va_rf v1), (0, false, va_rf a0), (1, false, .int x1), (2, false, .int x2)] dX10_meetGuises_18 hl (by decide) rfl (fun ls hl => ?_)
      exact pf_X10_meetGuises_b20 r Y hfr hlo hself 1001 h a0 x2 v1 0 _ _ hr H locs cells slots ls hH hS (mz_sub hl [2, 4, 1, 0] rfl) hc hs
    · exact mz_vret Y dX10_meetGuises_16 hH hS hc hs hr
set_option maxRecDepth 100000 in
theorem ct_X10_meetGuises (l : Launch) (g : mz_G) : ∀ (d : Nat) (h : mz_H) (a0 : (Option Nat)) (x1 : Int32) (x2 : Int32) (r : Unit) (hf : mz_H) (k n : Nat), fn_X10_meetGuises d h a0 x1 x2 = some (r, hf, k, n) → mz_C l g yX10_meetGuises cX10_meetGuises 5 none (4 + d) (120 + 40 * d) [va_rf a0, .int x1, .int x2] h none hf k n := by
  intro d
  induction d with
  | zero => intro h a0 x1 x2 r hf k n hr; simp [fn_X10_meetGuises] at hr
  | succ d ih =>
    intro h a0 x1 x2 r hf k n hr
    rw [fn_X10_meetGuises] at hr
    refine mz_met (as := [(false, va_rf a0), (false, .int x1), (false, .int x2)]) (plainFor_of_name (by decide)) (mz_c1 (mz_cat_rf _) (mz_c1 rfl (mz_c1 rfl mz_c0))) (Nat.le_of_ble_eq_true rfl) ?_
    intro p e s m args below meth c Y
    exact pf_X10_meetGuises_b0 r Y (fr := 4 + d) (lo := 120 + 40 * d) (by omega) (by omega) (self := fn_X10_meetGuises d) ih h a0 x1 x2 _ _ hr
theorem dX10_wayLengthOf_0 : decode cX10_wayLengthOf 0 = .ok (.aload_n 0, 1) := by decide +kernel
theorem dX10_wayLengthOf_1 : decode cX10_wayLengthOf 1 = .ok (.iconst 0, 1) := by decide +kernel
theorem dX10_wayLengthOf_2 : decode cX10_wayLengthOf 2 = .ok (.putfield 29, 3) := by decide +kernel
theorem dX10_wayLengthOf_5 : decode cX10_wayLengthOf 5 = .ok (.iconst 0, 1) := by decide +kernel
theorem dX10_wayLengthOf_6 : decode cX10_wayLengthOf 6 = .ok (.istore_n 2, 1) := by decide +kernel
theorem dX10_wayLengthOf_7 : decode cX10_wayLengthOf 7 = .ok (.iload_n 2, 1) := by decide +kernel
theorem dX10_wayLengthOf_8 : decode cX10_wayLengthOf 8 = .ok (.aload_n 0, 1) := by decide +kernel
theorem dX10_wayLengthOf_9 : decode cX10_wayLengthOf 9 = .ok (.getfield 21, 3) := by decide +kernel
theorem dX10_wayLengthOf_12 : decode cX10_wayLengthOf 12 = .ok (.arraylength, 1) := by decide +kernel
theorem dX10_wayLengthOf_13 : decode cX10_wayLengthOf 13 = .ok (.if_icmp .ge 16, 3) := by decide +kernel
theorem dX10_wayLengthOf_16 : decode cX10_wayLengthOf 16 = .ok (.aload_n 0, 1) := by decide +kernel
theorem dX10_wayLengthOf_17 : decode cX10_wayLengthOf 17 = .ok (.getfield 21, 3) := by decide +kernel
theorem dX10_wayLengthOf_20 : decode cX10_wayLengthOf 20 = .ok (.iload_n 2, 1) := by decide +kernel
theorem dX10_wayLengthOf_21 : decode cX10_wayLengthOf 21 = .ok (.iconst 0, 1) := by decide +kernel
theorem dX10_wayLengthOf_22 : decode cX10_wayLengthOf 22 = .ok (.bastore, 1) := by decide +kernel
theorem dX10_wayLengthOf_23 : decode cX10_wayLengthOf 23 = .ok (.iinc 2 1, 3) := by decide +kernel
theorem dX10_wayLengthOf_26 : decode cX10_wayLengthOf 26 = .ok (.goto (-19), 3) := by decide +kernel
theorem dX10_wayLengthOf_29 : decode cX10_wayLengthOf 29 = .ok (.iload_n 1, 1) := by decide +kernel
theorem dX10_wayLengthOf_30 : decode cX10_wayLengthOf 30 = .ok (.istore_n 2, 1) := by decide +kernel
theorem dX10_wayLengthOf_31 : decode cX10_wayLengthOf 31 = .ok (.iconst 0, 1) := by decide +kernel
theorem dX10_wayLengthOf_32 : decode cX10_wayLengthOf 32 = .ok (.istore_n 3, 1) := by decide +kernel
theorem dX10_wayLengthOf_33 : decode cX10_wayLengthOf 33 = .ok (.iload_n 3, 1) := by decide +kernel
theorem dX10_wayLengthOf_34 : decode cX10_wayLengthOf 34 = .ok (.bipush 7, 2) := by decide +kernel
theorem dX10_wayLengthOf_36 : decode cX10_wayLengthOf 36 = .ok (.if_icmp .gt 27, 3) := by decide +kernel
theorem dX10_wayLengthOf_39 : decode cX10_wayLengthOf 39 = .ok (.aload_n 0, 1) := by decide +kernel
theorem dX10_wayLengthOf_40 : decode cX10_wayLengthOf 40 = .ok (.iload_n 2, 1) := by decide +kernel
theorem dX10_wayLengthOf_41 : decode cX10_wayLengthOf 41 = .ok (.invokevirtual 32, 3) := by decide +kernel
theorem dX10_wayLengthOf_44 : decode cX10_wayLengthOf 44 = .ok (.ifCond .eq 19, 3) := by decide +kernel
theorem dX10_wayLengthOf_47 : decode cX10_wayLengthOf 47 = .ok (.aload_n 0, 1) := by decide +kernel
theorem dX10_wayLengthOf_48 : decode cX10_wayLengthOf 48 = .ok (.getfield 11, 3) := by decide +kernel
theorem dX10_wayLengthOf_51 : decode cX10_wayLengthOf 51 = .ok (.iload_n 2, 1) := by decide +kernel
theorem dX10_wayLengthOf_52 : decode cX10_wayLengthOf 52 = .ok (.aaload, 1) := by decide +kernel
theorem dX10_wayLengthOf_53 : decode cX10_wayLengthOf 53 = .ok (.getfield 36, 3) := by decide +kernel
theorem dX10_wayLengthOf_56 : decode cX10_wayLengthOf 56 = .ok (.istore_n 2, 1) := by decide +kernel
theorem dX10_wayLengthOf_57 : decode cX10_wayLengthOf 57 = .ok (.iinc 3 1, 3) := by decide +kernel
theorem dX10_wayLengthOf_60 : decode cX10_wayLengthOf 60 = .ok (.goto (-27), 3) := by decide +kernel
theorem dX10_wayLengthOf_63 : decode cX10_wayLengthOf 63 = .ok (.aload_n 0, 1) := by decide +kernel
theorem dX10_wayLengthOf_64 : decode cX10_wayLengthOf 64 = .ok (.getfield 29, 3) := by decide +kernel
theorem dX10_wayLengthOf_67 : decode cX10_wayLengthOf 67 = .ok (.istore_n 3, 1) := by decide +kernel
theorem dX10_wayLengthOf_68 : decode cX10_wayLengthOf 68 = .ok (.iconst 0, 1) := by decide +kernel
theorem dX10_wayLengthOf_69 : decode cX10_wayLengthOf 69 = .ok (.istore 4, 2) := by decide +kernel
theorem dX10_wayLengthOf_71 : decode cX10_wayLengthOf 71 = .ok (.iload 4, 2) := by decide +kernel
theorem dX10_wayLengthOf_73 : decode cX10_wayLengthOf 73 = .ok (.iload_n 3, 1) := by decide +kernel
theorem dX10_wayLengthOf_74 : decode cX10_wayLengthOf 74 = .ok (.if_icmp .ge 21, 3) := by decide +kernel
theorem dX10_wayLengthOf_77 : decode cX10_wayLengthOf 77 = .ok (.aload_n 0, 1) := by decide +kernel
theorem dX10_wayLengthOf_78 : decode cX10_wayLengthOf 78 = .ok (.aload_n 0, 1) := by decide +kernel
theorem dX10_wayLengthOf_79 : decode cX10_wayLengthOf 79 = .ok (.getfield 17, 3) := by decide +kernel
theorem dX10_wayLengthOf_82 : decode cX10_wayLengthOf 82 = .ok (.iload 4, 2) := by decide +kernel
theorem dX10_wayLengthOf_84 : decode cX10_wayLengthOf 84 = .ok (.iaload, 1) := by decide +kernel
theorem dX10_wayLengthOf_85 : decode cX10_wayLengthOf 85 = .ok (.iconst 0, 1) := by decide +kernel
theorem dX10_wayLengthOf_86 : decode cX10_wayLengthOf 86 = .ok (.invokevirtual 39, 3) := by decide +kernel
theorem dX10_wayLengthOf_89 : decode cX10_wayLengthOf 89 = .ok (.iinc 4 1, 3) := by decide +kernel
theorem dX10_wayLengthOf_92 : decode cX10_wayLengthOf 92 = .ok (.goto (-21), 3) := by decide +kernel
theorem dX10_wayLengthOf_95 : decode cX10_wayLengthOf 95 = .ok (.aload_n 0, 1) := by decide +kernel
theorem dX10_wayLengthOf_96 : decode cX10_wayLengthOf 96 = .ok (.getfield 29, 3) := by decide +kernel
theorem dX10_wayLengthOf_99 : decode cX10_wayLengthOf 99 = .ok (.ireturn, 1) := by decide +kernel
def fn_X10_wayLengthOf_b71 : Nat → mz_H → (Option Nat) → Int32 → Int32 → mz_Res Int32
  | 0, _, _, _, _ => none
  | n + 1, h, a0, x3, x4 =>
    if x3 ≤ x4 then
      mz_op (mz_fI h a0 9 3) fun v1 =>
      mz_ret v1 h
    else
      mz_op (mz_fR h a0 9 2) fun v2 =>
      mz_op (mz_aI h v2 0 x4) fun v3 =>
      mz_chk (mz_is h a0 9) <| mz_call (fn_X10_meetGuises 60 h a0 v3 0) fun _ h =>
      mz_op (some (x4 + 1)) fun v4 =>
      fn_X10_wayLengthOf_b71 n h a0 x3 v4
set_option maxHeartbeats 4000000 in
set_option maxRecDepth 100000 in
theorem pf_X10_wayLengthOf_b71 (r : Int32) (Y : mz_Y p g RX10 cX10_wayLengthOf 5 (some .int) "wayLengthOf" (mz_AF h0) s m args meth c) : ∀ (n : Nat) (h : mz_H) (a0 : (Option Nat)) (x3 : Int32) (x4 : Int32) (dc ds : Nat), fn_X10_wayLengthOf_b71 n h a0 x3 x4 = some (r, hf, dc, ds) → mz_Go l g p e s m args below meth c 65 2544 DC DS h0 (some (Value.int r)) hf 5 71 [(0, false, va_rf a0), (3, false, .int x3), (4, false, .int x4)] [] h dc ds := by
  have X := Y.1
  intro n
  induction n with
  | zero => intro h a0 x3 x4 dc ds hr; simp [fn_X10_wayLengthOf_b71] at hr
  | succ n ih =>
    intro h a0 x3 x4 dc ds hr
    rw [fn_X10_wayLengthOf_b71] at hr
    intro H locs cells slots ls hH hS hl hc hs
    refine lv_iload X.1 X.2.1 dX10_wayLengthOf_71 (mz_at hl 2 rfl) ?_
    refine lv_iload_n X.1 X.2.1 dX10_wayLengthOf_73 rfl (mz_at hl 1 rfl) ?_
    refine mz_icmp_ge X 95 dX10_wayLengthOf_74 (by decide) hr (fun hr => ?_) (fun hr => ?_)
    · refine mz_aload_n X dX10_wayLengthOf_95 rfl (mz_at hl 0 rfl) ?_
      refine mz_getI X hH fl_RX10_29 dX10_wayLengthOf_96 hr (fun v1 hr => ?_)
      exact mz_iret Y dX10_wayLengthOf_99 hH hS hc hs hr
    · refine mz_aload_n X dX10_wayLengthOf_77 rfl (mz_at hl 0 rfl) ?_
      refine mz_aload_n X dX10_wayLengthOf_78 rfl (mz_at hl 0 rfl) ?_
      refine mz_getR X hH fl_RX10_17 dX10_wayLengthOf_79 hr (fun v2 hr => ?_)
      refine lv_iload X.1 X.2.1 dX10_wayLengthOf_82 (mz_at hl 2 rfl) ?_
      refine mz_iald X hH dX10_wayLengthOf_84 hr (fun v3 hr => ?_)
      refine lv_iconst (v := 0) X.1 X.2.1 dX10_wayLengthOf_85 (by decide) ?_
      refine mz_kV0 X hH hS hl.1.1 [.int v3, .int 0] [] hr (ct_X10_meetGuises l g 60 h a0 v3 0) mb_RX10_39 rfl im_X10_meetGuises rfl (Nat.le_of_ble_eq_true rfl) ⟨Nat.le_of_ble_eq_true rfl, Nat.le_of_ble_eq_true rfl⟩ hc hs dX10_wayLengthOf_86 rfl (fun _ h H locs cells slots dc ds hr hH hS hc hs => ?_)
      obtain ⟨v4, hv4, hr⟩ := mz_op_some hr
      have hv4 := Option.some.inj hv4
      refine mz_iinc (k := 2) X [(4, false, .int v4), (0, false, va_rf a0), (3, false, .int x3)] v4 dX10_wayLengthOf_89 hl rfl hv4 (by decide) rfl (fun ls hl => ?_)
      refine lv_goto (tgt := 71) X.1 X.2.1 dX10_wayLengthOf_92 (by decide) ?_
      exact ih h a0 x3 v4 _ _ hr H locs cells slots ls hH hS (mz_sub hl [1, 2, 0] rfl) hc hs
def fn_X10_wayLengthOf_b63 (h : mz_H) (a0 : (Option Nat)) : mz_Res Int32 :=
  mz_op (mz_fI h a0 9 3) fun v1 =>
  fn_X10_wayLengthOf_b71 1001 h a0 v1 0
set_option maxHeartbeats 4000000 in
set_option maxRecDepth 100000 in
theorem pf_X10_wayLengthOf_b63 (r : Int32) (Y : mz_Y p g RX10 cX10_wayLengthOf 5 (some .int) "wayLengthOf" (mz_AF h0) s m args meth c) (h : mz_H) (a0 : (Option Nat)) (dc ds : Nat) (hr : fn_X10_wayLengthOf_b63 h a0 = some (r, hf, dc, ds)) : mz_Go l g p e s m args below meth c 65 2544 DC DS h0 (some (Value.int r)) hf 5 63 [(0, false, va_rf a0)] [] h dc ds := by
  unfold fn_X10_wayLengthOf_b63 at hr
  intro H locs cells slots ls hH hS hl hc hs
  have X := Y.1
  refine mz_aload_n X dX10_wayLengthOf_63 rfl (mz_at hl 0 rfl) ?_
  refine mz_getI X hH fl_RX10_29 dX10_wayLengthOf_64 hr (fun v1 hr => ?_)
  refine mz_istore_n X [(3, false, .int v1), (0, false, va_rf a0)] dX10_wayLengthOf_67 rfl hl (by decide) rfl (fun ls hl => ?_)
  refine lv_iconst (v := 0) X.1 X.2.1 dX10_wayLengthOf_68 (by decide) ?_
  refine mz_istore X [(4, false, .int 0), (3, false, .int v1), (0, false, va_rf a0)] dX10_wayLengthOf_69 hl (by decide) rfl (fun ls hl => ?_)
  exact pf_X10_wayLengthOf_b71 r Y 1001 h a0 v1 0 _ _ hr H locs cells slots ls hH hS (mz_sub hl [2, 1, 0] rfl) hc hs
def fn_X10_wayLengthOf_b33 : Nat → mz_H → (Option Nat) → Int32 → Int32 → mz_Res Int32
  | 0, _, _, _, _ => none
  | n + 1, h, a0, x2, x3 =>
    if 7 < x3 then
      fn_X10_wayLengthOf_b63 h a0
    else
      mz_chk (mz_is h a0 9) <| mz_call (fn_X10_meet h a0 x2) fun v1 h =>
      if v1 = 0 then
        fn_X10_wayLengthOf_b63 h a0
      else
        mz_op (mz_fR h a0 9 0) fun v2 =>
        mz_op (mz_aR h v2 18 x2) fun v3 =>
        mz_op (mz_fI h v3 8 1) fun v4 =>
        mz_op (some (x3 + 1)) fun v5 =>
        fn_X10_wayLengthOf_b33 n h a0 v4 v5
set_option maxHeartbeats 4000000 in
set_option maxRecDepth 100000 in
theorem pf_X10_wayLengthOf_b33 (r : Int32) (Y : mz_Y p g RX10 cX10_wayLengthOf 5 (some .int) "wayLengthOf" (mz_AF h0) s m args meth c) : ∀ (n : Nat) (h : mz_H) (a0 : (Option Nat)) (x2 : Int32) (x3 : Int32) (dc ds : Nat), fn_X10_wayLengthOf_b33 n h a0 x2 x3 = some (r, hf, dc, ds) → mz_Go l g p e s m args below meth c 65 2544 DC DS h0 (some (Value.int r)) hf 5 33 [(0, false, va_rf a0), (2, false, .int x2), (3, false, .int x3)] [] h dc ds := by
  have X := Y.1
  intro n
  induction n with
  | zero => intro h a0 x2 x3 dc ds hr; simp [fn_X10_wayLengthOf_b33] at hr
  | succ n ih =>
    intro h a0 x2 x3 dc ds hr
    rw [fn_X10_wayLengthOf_b33] at hr
    intro H locs cells slots ls hH hS hl hc hs
    refine lv_iload_n X.1 X.2.1 dX10_wayLengthOf_33 rfl (mz_at hl 2 rfl) ?_
    refine lv_bipush (v := 7) X.1 X.2.1 dX10_wayLengthOf_34 (by decide) ?_
    refine mz_icmp_gt X 63 dX10_wayLengthOf_36 (by decide) hr (fun hr => ?_) (fun hr => ?_)
    · exact pf_X10_wayLengthOf_b63 r Y h a0 _ _ hr H locs cells slots ls hH hS (mz_sub hl [0] rfl) hc hs
    · refine mz_aload_n X dX10_wayLengthOf_39 rfl (mz_at hl 0 rfl) ?_
      refine lv_iload_n X.1 X.2.1 dX10_wayLengthOf_40 rfl (mz_at hl 1 rfl) ?_
      refine mz_kV Value.int X hH hS hl.1.1 [.int x2] [] hr (ct_X10_meet l g h a0 x2) mb_RX10_32 rfl im_X10_meet rfl (Nat.le_of_ble_eq_true rfl) ⟨Nat.le_of_ble_eq_true rfl, Nat.le_of_ble_eq_true rfl⟩ hc hs dX10_wayLengthOf_41 rfl (fun v1 h H locs cells slots dc ds hr hH hS hc hs => ?_)
      refine mz_if_eq X 63 dX10_wayLengthOf_44 (by decide) hr (fun hr => ?_) (fun hr => ?_)
      · exact pf_X10_wayLengthOf_b63 r Y h a0 _ _ hr H locs cells slots ls hH hS (mz_sub hl [0] rfl) hc hs
      · refine mz_aload_n X dX10_wayLengthOf_47 rfl (mz_at hl 0 rfl) ?_
        refine mz_getR X hH fl_RX10_11 dX10_wayLengthOf_48 hr (fun v2 hr => ?_)
        refine lv_iload_n X.1 X.2.1 dX10_wayLengthOf_51 rfl (mz_at hl 1 rfl) ?_
        refine mz_aald (t := 18) X hH (by decide) rfl dX10_wayLengthOf_52 hr (fun v3 hr => ?_)
        refine mz_getI X hH fl_RX10_36 dX10_wayLengthOf_53 hr (fun v4 hr => ?_)
        refine mz_istore_n X [(2, false, .int v4), (0, false, va_rf a0), (3, false, .int x3)] dX10_wayLengthOf_56 rfl hl (by decide) rfl (fun ls hl => ?_)
        obtain ⟨v5, hv5, hr⟩ := mz_op_some hr
        have hv5 := Option.some.inj hv5
        refine mz_iinc (k := 2) X [(3, false, .int v5), (2, false, .int v4), (0, false, va_rf a0)] v5 dX10_wayLengthOf_57 hl rfl hv5 (by decide) rfl (fun ls hl => ?_)
        refine lv_goto (tgt := 33) X.1 X.2.1 dX10_wayLengthOf_60 (by decide) ?_
        exact ih h a0 v4 v5 _ _ hr H locs cells slots ls hH hS (mz_sub hl [2, 1, 0] rfl) hc hs
def fn_X10_wayLengthOf_b7 : Nat → mz_H → (Option Nat) → Int32 → Int32 → mz_Res Int32
  | 0, _, _, _, _ => none
  | n + 1, h, a0, x1, x2 =>
    mz_op (mz_fR h a0 9 4) fun v1 =>
    mz_op (mz_len h v1 2) fun v2 =>
    if v2 ≤ x2 then
      fn_X10_wayLengthOf_b33 1001 h a0 x1 0
    else
      mz_op (mz_fR h a0 9 4) fun v3 =>
      mz_op (mz_sI h v3 2 x2 (0 &&& 1)) fun h =>
      mz_op (some (x2 + 1)) fun v4 =>
      fn_X10_wayLengthOf_b7 n h a0 x1 v4
set_option maxHeartbeats 4000000 in
set_option maxRecDepth 100000 in
theorem pf_X10_wayLengthOf_b7 (r : Int32) (Y : mz_Y p g RX10 cX10_wayLengthOf 5 (some .int) "wayLengthOf" (mz_AF h0) s m args meth c) : ∀ (n : Nat) (h : mz_H) (a0 : (Option Nat)) (x1 : Int32) (x2 : Int32) (dc ds : Nat), fn_X10_wayLengthOf_b7 n h a0 x1 x2 = some (r, hf, dc, ds) → mz_Go l g p e s m args below meth c 65 2544 DC DS h0 (some (Value.int r)) hf 5 7 [(0, false, va_rf a0), (1, false, .int x1), (2, false, .int x2)] [] h dc ds := by
  have X := Y.1
  intro n
  induction n with
  | zero => intro h a0 x1 x2 dc ds hr; simp [fn_X10_wayLengthOf_b7] at hr
  | succ n ih =>
    intro h a0 x1 x2 dc ds hr
    rw [fn_X10_wayLengthOf_b7] at hr
    intro H locs cells slots ls hH hS hl hc hs
    refine lv_iload_n X.1 X.2.1 dX10_wayLengthOf_7 rfl (mz_at hl 2 rfl) ?_
    refine mz_aload_n X dX10_wayLengthOf_8 rfl (mz_at hl 0 rfl) ?_
    refine mz_getR X hH fl_RX10_21 dX10_wayLengthOf_9 hr (fun v1 hr => ?_)
    refine mz_alen (t := 2) X hH (by decide) dX10_wayLengthOf_12 hr (fun v2 hr => ?_)
    refine mz_icmp_ge X 29 dX10_wayLengthOf_13 (by decide) hr (fun hr => ?_) (fun hr => ?_)
    · refine lv_iload_n X.1 X.2.1 dX10_wayLengthOf_29 rfl (mz_at hl 1 rfl) ?_
      refine mz_istore_n X [(2, false, .int x1), (0, false, va_rf a0), (1, false, .int x1)] dX10_wayLengthOf_30 rfl hl (by decide) rfl (fun ls hl => ?_)
      refine lv_iconst (v := 0) X.1 X.2.1 dX10_wayLengthOf_31 (by decide) ?_
      refine mz_istore_n X [(3, false, .int 0), (2, false, .int x1), (0, false, va_rf a0), (1, false, .int x1)] dX10_wayLengthOf_32 rfl hl (by decide) rfl (fun ls hl => ?_)
      exact pf_X10_wayLengthOf_b33 r Y 1001 h a0 x1 0 _ _ hr H locs cells slots ls hH hS (mz_sub hl [2, 1, 0] rfl) hc hs
    · refine mz_aload_n X dX10_wayLengthOf_16 rfl (mz_at hl 0 rfl) ?_
      refine mz_getR X hH fl_RX10_21 dX10_wayLengthOf_17 hr (fun v3 hr => ?_)
      refine lv_iload_n X.1 X.2.1 dX10_wayLengthOf_20 rfl (mz_at hl 2 rfl) ?_
      refine lv_iconst (v := 0) X.1 X.2.1 dX10_wayLengthOf_21 (by decide) ?_
      refine mz_zast X hH hS dX10_wayLengthOf_22 hr (fun h H locs hr hH hS => ?_)
      obtain ⟨v4, hv4, hr⟩ := mz_op_some hr
      have hv4 := Option.some.inj hv4
      refine mz_iinc (k := 2) X [(2, false, .int v4), (0, false, va_rf a0), (1, false, .int x1)] v4 dX10_wayLengthOf_23 hl rfl hv4 (by decide) rfl (fun ls hl => ?_)
      refine lv_goto (tgt := 7) X.1 X.2.1 dX10_wayLengthOf_26 (by decide) ?_
      exact ih h a0 x1 v4 _ _ hr H locs cells slots ls hH hS (mz_sub hl [1, 2, 0] rfl) hc hs
def fn_X10_wayLengthOf (h : mz_H) (a0 : (Option Nat)) (x1 : Int32) : mz_Res Int32 :=
  mz_op (mz_pF h a0 9 3 (Value.int 0)) fun h =>
  fn_X10_wayLengthOf_b7 1001 h a0 x1 0
set_option maxHeartbeats 4000000 in
set_option maxRecDepth 100000 in
theorem pf_X10_wayLengthOf_b0 (r : Int32) (Y : mz_Y p g RX10 cX10_wayLengthOf 5 (some .int) "wayLengthOf" (mz_AF h0) s m args meth c) (h : mz_H) (a0 : (Option Nat)) (x1 : Int32) (dc ds : Nat) (hr : fn_X10_wayLengthOf h a0 x1 = some (r, hf, dc, ds)) : mz_Go l g p e s m args below meth c 65 2544 DC DS h0 (some (Value.int r)) hf 5 0 [(0, false, va_rf a0), (1, false, .int x1)] [] h dc ds := by
  unfold fn_X10_wayLengthOf at hr
  intro H locs cells slots ls hH hS hl hc hs
  have X := Y.1
  refine mz_aload_n X dX10_wayLengthOf_0 rfl (mz_at hl 0 rfl) ?_
  refine lv_iconst (v := 0) X.1 X.2.1 dX10_wayLengthOf_1 (by decide) ?_
  refine mz_put X hH hS fp_RX10_29 dX10_wayLengthOf_2 rfl rfl hr (fun h H locs hr hH hS => ?_)
  refine lv_iconst (v := 0) X.1 X.2.1 dX10_wayLengthOf_5 (by decide) ?_
  refine mz_istore_n X [(2, false, .int 0), (0, false, va_rf a0), (1, false, .int x1)] dX10_wayLengthOf_6 rfl hl (by decide) rfl (fun ls hl => ?_)
  exact pf_X10_wayLengthOf_b7 r Y 1001 h a0 x1 0 _ _ hr H locs cells slots ls hH hS (mz_sub hl [1, 2, 0] rfl) hc hs
set_option maxRecDepth 100000 in
theorem ct_X10_wayLengthOf (l : Launch) (g : mz_G) (h : mz_H) (a0 : (Option Nat)) (x1 : Int32) (r : Int32) (hf : mz_H) (k n : Nat) (hr : fn_X10_wayLengthOf h a0 x1 = some (r, hf, k, n)) : mz_C l g yX10_wayLengthOf cX10_wayLengthOf 5 (some .int) 65 2544 [va_rf a0, .int x1] h (some (Value.int r)) hf k n := by
  refine mz_met (as := [(false, va_rf a0), (false, .int x1)]) (plainFor_of_name (by decide)) (mz_c1 (mz_cat_rf _) (mz_c1 rfl mz_c0)) (Nat.le_of_ble_eq_true rfl) ?_
  intro p e s m args below meth c Y
  exact pf_X10_wayLengthOf_b0 r Y h a0 x1 _ _ hr
theorem dX10_isBelow_0 : decode cX10_isBelow 0 = .ok (.aload_n 0, 1) := by decide +kernel
theorem dX10_isBelow_1 : decode cX10_isBelow 1 = .ok (.iload_n 1, 1) := by decide +kernel
theorem dX10_isBelow_2 : decode cX10_isBelow 2 = .ok (.invokevirtual 43, 3) := by decide +kernel
theorem dX10_isBelow_5 : decode cX10_isBelow 5 = .ok (.pop, 1) := by decide +kernel
theorem dX10_isBelow_6 : decode cX10_isBelow 6 = .ok (.aload_n 0, 1) := by decide +kernel
theorem dX10_isBelow_7 : decode cX10_isBelow 7 = .ok (.iload_n 2, 1) := by decide +kernel
theorem dX10_isBelow_8 : decode cX10_isBelow 8 = .ok (.invokevirtual 47, 3) := by decide +kernel
theorem dX10_isBelow_11 : decode cX10_isBelow 11 = .ok (.ifnull 16, 3) := by decide +kernel
theorem dX10_isBelow_14 : decode cX10_isBelow 14 = .ok (.aload_n 0, 1) := by decide +kernel
theorem dX10_isBelow_15 : decode cX10_isBelow 15 = .ok (.getfield 21, 3) := by decide +kernel
theorem dX10_isBelow_18 : decode cX10_isBelow 18 = .ok (.iload_n 2, 1) := by decide +kernel
theorem dX10_isBelow_19 : decode cX10_isBelow 19 = .ok (.baload, 1) := by decide +kernel
theorem dX10_isBelow_20 : decode cX10_isBelow 20 = .ok (.ifCond .eq 7, 3) := by decide +kernel
theorem dX10_isBelow_23 : decode cX10_isBelow 23 = .ok (.iconst 1, 1) := by decide +kernel
theorem dX10_isBelow_24 : decode cX10_isBelow 24 = .ok (.goto 4, 3) := by decide +kernel
theorem dX10_isBelow_27 : decode cX10_isBelow 27 = .ok (.iconst 0, 1) := by decide +kernel
theorem dX10_isBelow_28 : decode cX10_isBelow 28 = .ok (.ireturn, 1) := by decide +kernel
def fn_X10_isBelow (h : mz_H) (a0 : (Option Nat)) (x1 : Int32) (x2 : Int32) : mz_Res Int32 :=
  mz_chk (mz_is h a0 9) <| mz_call (fn_X10_wayLengthOf h a0 x1) fun v1 h =>
  mz_chk (mz_is h a0 9) <| mz_call (fn_X10_typeOf h a0 x2) fun v2 h =>
  if v2 = none then
    mz_chk ((0 : Int32) &&& 1 == 0) (mz_ret 0 h)
  else
    mz_op (mz_fR h a0 9 4) fun v3 =>
    mz_op (mz_aI h v3 2 x2) fun v4 =>
    if v4 = 0 then
      mz_chk ((0 : Int32) &&& 1 == 0) (mz_ret 0 h)
    else
      mz_chk ((1 : Int32) &&& 1 == 1) (mz_ret 1 h)
set_option maxHeartbeats 4000000 in
set_option maxRecDepth 100000 in
theorem pf_X10_isBelow_b0 (r : Int32) (Y : mz_Y p g RX10 cX10_isBelow 3 (some .boolean) "isBelow" (mz_AF h0) s m args meth c) (h : mz_H) (a0 : (Option Nat)) (x1 : Int32) (x2 : Int32) (dc ds : Nat) (hr : fn_X10_isBelow h a0 x1 x2 = some (r, hf, dc, ds)) : mz_Go l g p e s m args below meth c 66 2568 DC DS h0 (some (Value.int r)) hf 3 0 [(0, false, va_rf a0), (1, false, .int x1), (2, false, .int x2)] [] h dc ds := by
  unfold fn_X10_isBelow at hr
  intro H locs cells slots ls hH hS hl hc hs
  have X := Y.1
  refine mz_aload_n X dX10_isBelow_0 rfl (mz_at hl 0 rfl) ?_
  refine lv_iload_n X.1 X.2.1 dX10_isBelow_1 rfl (mz_at hl 1 rfl) ?_
  refine mz_kV Value.int X hH hS hl.1.1 [.int x1] [] hr (ct_X10_wayLengthOf l g h a0 x1) mb_RX10_43 rfl im_X10_wayLengthOf rfl (Nat.le_of_ble_eq_true rfl) ⟨Nat.le_of_ble_eq_true rfl, Nat.le_of_ble_eq_true rfl⟩ hc hs dX10_isBelow_2 rfl (fun v1 h H locs cells slots dc ds hr hH hS hc hs => ?_)
  refine lv_pop X.1 X.2.1 dX10_isBelow_5 rfl ?_
  refine mz_aload_n X dX10_isBelow_6 rfl (mz_at hl 0 rfl) ?_
  refine lv_iload_n X.1 X.2.1 dX10_isBelow_7 rfl (mz_at hl 2 rfl) ?_
  refine mz_kV va_rf X hH hS hl.1.1 [.int x2] [] hr (ct_X10_typeOf l g h a0 x2) mb_RX10_47 rfl im_X10_typeOf rfl (Nat.le_of_ble_eq_true rfl) ⟨Nat.le_of_ble_eq_true rfl, Nat.le_of_ble_eq_true rfl⟩ hc hs dX10_isBelow_8 rfl (fun v2 h H locs cells slots dc ds hr hH hS hc hs => ?_)
  refine mz_ifnull X 27 dX10_isBelow_11 (by decide) hr (fun hr => ?_) (fun hr => ?_)
  · refine lv_iconst (v := 0) X.1 X.2.1 dX10_isBelow_27 (by decide) ?_
    exact mz_zret Y dX10_isBelow_28 hH hS hc hs hr
  · refine mz_aload_n X dX10_isBelow_14 rfl (mz_at hl 0 rfl) ?_
    refine mz_getR X hH fl_RX10_21 dX10_isBelow_15 hr (fun v3 hr => ?_)
    refine lv_iload_n X.1 X.2.1 dX10_isBelow_18 rfl (mz_at hl 2 rfl) ?_
    refine mz_zald X hH dX10_isBelow_19 hr (fun v4 hr => ?_)
    refine mz_if_eq X 27 dX10_isBelow_20 (by decide) hr (fun hr => ?_) (fun hr => ?_)
    · refine lv_iconst (v := 0) X.1 X.2.1 dX10_isBelow_27 (by decide) ?_
      exact mz_zret Y dX10_isBelow_28 hH hS hc hs hr
    · refine lv_iconst (v := 1) X.1 X.2.1 dX10_isBelow_23 (by decide) ?_
      refine lv_goto (tgt := 28) X.1 X.2.1 dX10_isBelow_24 (by decide) ?_
      exact mz_zret Y dX10_isBelow_28 hH hS hc hs hr
set_option maxRecDepth 100000 in
theorem ct_X10_isBelow (l : Launch) (g : mz_G) (h : mz_H) (a0 : (Option Nat)) (x1 : Int32) (x2 : Int32) (r : Int32) (hf : mz_H) (k n : Nat) (hr : fn_X10_isBelow h a0 x1 x2 = some (r, hf, k, n)) : mz_C l g yX10_isBelow cX10_isBelow 3 (some .boolean) 66 2568 [va_rf a0, .int x1, .int x2] h (some (Value.int r)) hf k n := by
  refine mz_met (as := [(false, va_rf a0), (false, .int x1), (false, .int x2)]) (plainFor_of_name (by decide)) (mz_c1 (mz_cat_rf _) (mz_c1 rfl (mz_c1 rfl mz_c0))) (Nat.le_of_ble_eq_true rfl) ?_
  intro p e s m args below meth c Y
  exact pf_X10_isBelow_b0 r Y h a0 x1 x2 _ _ hr
theorem dX10_start_0 : decode cX10_start 0 = .ok (.iload_n 1, 1) := by decide +kernel
theorem dX10_start_1 : decode cX10_start 1 = .ok (.istore_n 2, 1) := by decide +kernel
theorem dX10_start_2 : decode cX10_start 2 = .ok (.iconst 0, 1) := by decide +kernel
theorem dX10_start_3 : decode cX10_start 3 = .ok (.istore_n 3, 1) := by decide +kernel
theorem dX10_start_4 : decode cX10_start 4 = .ok (.iload_n 3, 1) := by decide +kernel
theorem dX10_start_5 : decode cX10_start 5 = .ok (.bipush 7, 2) := by decide +kernel
theorem dX10_start_7 : decode cX10_start 7 = .ok (.if_icmp .gt 37, 3) := by decide +kernel
theorem dX10_start_10 : decode cX10_start 10 = .ok (.aload_n 0, 1) := by decide +kernel
theorem dX10_start_11 : decode cX10_start 11 = .ok (.iload_n 2, 1) := by decide +kernel
theorem dX10_start_12 : decode cX10_start 12 = .ok (.invokevirtual 47, 3) := by decide +kernel
theorem dX10_start_15 : decode cX10_start 15 = .ok (.ifnull 29, 3) := by decide +kernel
theorem dX10_start_18 : decode cX10_start 18 = .ok (.aload_n 0, 1) := by decide +kernel
theorem dX10_start_19 : decode cX10_start 19 = .ok (.getfield 11, 3) := by decide +kernel
theorem dX10_start_22 : decode cX10_start 22 = .ok (.iload_n 2, 1) := by decide +kernel
theorem dX10_start_23 : decode cX10_start 23 = .ok (.aaload, 1) := by decide +kernel
theorem dX10_start_24 : decode cX10_start 24 = .ok (.iconst 1, 1) := by decide +kernel
theorem dX10_start_25 : decode cX10_start 25 = .ok (.putfield 51, 3) := by decide +kernel
theorem dX10_start_28 : decode cX10_start 28 = .ok (.aload_n 0, 1) := by decide +kernel
theorem dX10_start_29 : decode cX10_start 29 = .ok (.getfield 11, 3) := by decide +kernel
theorem dX10_start_32 : decode cX10_start 32 = .ok (.iload_n 2, 1) := by decide +kernel
theorem dX10_start_33 : decode cX10_start 33 = .ok (.aaload, 1) := by decide +kernel
theorem dX10_start_34 : decode cX10_start 34 = .ok (.getfield 36, 3) := by decide +kernel
theorem dX10_start_37 : decode cX10_start 37 = .ok (.istore_n 2, 1) := by decide +kernel
theorem dX10_start_38 : decode cX10_start 38 = .ok (.iinc 3 1, 3) := by decide +kernel
theorem dX10_start_41 : decode cX10_start 41 = .ok (.goto (-37), 3) := by decide +kernel
theorem dX10_start_44 : decode cX10_start 44 = .ok (.return_, 1) := by decide +kernel
def fn_X10_start_b4 : Nat → mz_H → (Option Nat) → Int32 → Int32 → mz_Res Unit
  | 0, _, _, _, _ => none
  | n + 1, h, a0, x2, x3 =>
    if 7 < x3 then
      mz_ret () h
    else
      mz_chk (mz_is h a0 9) <| mz_call (fn_X10_typeOf h a0 x2) fun v1 h =>
      if v1 = none then
        mz_ret () h
      else
        mz_op (mz_fR h a0 9 0) fun v2 =>
        mz_op (mz_aR h v2 18 x2) fun v3 =>
        mz_op (mz_pF h v3 8 10 (Value.int 1)) fun h =>
        mz_op (mz_fR h a0 9 0) fun v4 =>
        mz_op (mz_aR h v4 18 x2) fun v5 =>
        mz_op (mz_fI h v5 8 1) fun v6 =>
        mz_op (some (x3 + 1)) fun v7 =>
        fn_X10_start_b4 n h a0 v6 v7
set_option maxHeartbeats 4000000 in
set_option maxRecDepth 100000 in
theorem pf_X10_start_b4 (r : Unit) (Y : mz_Y p g RX10 cX10_start 4 none "start" (mz_AF h0) s m args meth c) : ∀ (n : Nat) (h : mz_H) (a0 : (Option Nat)) (x2 : Int32) (x3 : Int32) (dc ds : Nat), fn_X10_start_b4 n h a0 x2 x3 = some (r, hf, dc, ds) → mz_Go l g p e s m args below meth c 1 21 DC DS h0 none hf 4 4 [(0, false, va_rf a0), (2, false, .int x2), (3, false, .int x3)] [] h dc ds := by
  have X := Y.1
  intro n
  induction n with
  | zero => intro h a0 x2 x3 dc ds hr; simp [fn_X10_start_b4] at hr
  | succ n ih =>
    intro h a0 x2 x3 dc ds hr
    rw [fn_X10_start_b4] at hr
    intro H locs cells slots ls hH hS hl hc hs
    refine lv_iload_n X.1 X.2.1 dX10_start_4 rfl (mz_at hl 2 rfl) ?_
    refine lv_bipush (v := 7) X.1 X.2.1 dX10_start_5 (by decide) ?_
    refine mz_icmp_gt X 44 dX10_start_7 (by decide) hr (fun hr => ?_) (fun hr => ?_)
    · exact mz_vret Y dX10_start_44 hH hS hc hs hr
    · refine mz_aload_n X dX10_start_10 rfl (mz_at hl 0 rfl) ?_
      refine lv_iload_n X.1 X.2.1 dX10_start_11 rfl (mz_at hl 1 rfl) ?_
      refine mz_kV va_rf X hH hS hl.1.1 [.int x2] [] hr (ct_X10_typeOf l g h a0 x2) mb_RX10_47 rfl im_X10_typeOf rfl (Nat.le_of_ble_eq_true rfl) ⟨Nat.le_of_ble_eq_true rfl, Nat.le_of_ble_eq_true rfl⟩ hc hs dX10_start_12 rfl (fun v1 h H locs cells slots dc ds hr hH hS hc hs => ?_)
      refine mz_ifnull X 44 dX10_start_15 (by decide) hr (fun hr => ?_) (fun hr => ?_)
      · exact mz_vret Y dX10_start_44 hH hS hc hs hr
      · refine mz_aload_n X dX10_start_18 rfl (mz_at hl 0 rfl) ?_
        refine mz_getR X hH fl_RX10_11 dX10_start_19 hr (fun v2 hr => ?_)
        refine lv_iload_n X.1 X.2.1 dX10_start_22 rfl (mz_at hl 1 rfl) ?_
        refine mz_aald (t := 18) X hH (by decide) rfl dX10_start_23 hr (fun v3 hr => ?_)
        refine lv_iconst (v := 1) X.1 X.2.1 dX10_start_24 (by decide) ?_
        refine mz_put X hH hS fp_RX10_51 dX10_start_25 (by decide) (by decide) hr (fun h H locs hr hH hS => ?_)
        refine mz_aload_n X dX10_start_28 rfl (mz_at hl 0 rfl) ?_
        refine mz_getR X hH fl_RX10_11 dX10_start_29 hr (fun v4 hr => ?_)
        refine lv_iload_n X.1 X.2.1 dX10_start_32 rfl (mz_at hl 1 rfl) ?_
        refine mz_aald (t := 18) X hH (by decide) rfl dX10_start_33 hr (fun v5 hr => ?_)
        refine mz_getI X hH fl_RX10_36 dX10_start_34 hr (fun v6 hr => ?_)
        refine mz_istore_n X [(2, false, .int v6), (0, false, va_rf a0), (3, false, .int x3)] dX10_start_37 rfl hl (by decide) rfl (fun ls hl => ?_)
        obtain ⟨v7, hv7, hr⟩ := mz_op_some hr
        have hv7 := Option.some.inj hv7
        refine mz_iinc (k := 2) X [(3, false, .int v7), (2, false, .int v6), (0, false, va_rf a0)] v7 dX10_start_38 hl rfl hv7 (by decide) rfl (fun ls hl => ?_)
        refine lv_goto (tgt := 4) X.1 X.2.1 dX10_start_41 (by decide) ?_
        exact ih h a0 v6 v7 _ _ hr H locs cells slots ls hH hS (mz_sub hl [2, 1, 0] rfl) hc hs
def fn_X10_start (h : mz_H) (a0 : (Option Nat)) (x1 : Int32) : mz_Res Unit :=
  fn_X10_start_b4 1001 h a0 x1 0
set_option maxHeartbeats 4000000 in
set_option maxRecDepth 100000 in
theorem pf_X10_start_b0 (r : Unit) (Y : mz_Y p g RX10 cX10_start 4 none "start" (mz_AF h0) s m args meth c) (h : mz_H) (a0 : (Option Nat)) (x1 : Int32) (dc ds : Nat) (hr : fn_X10_start h a0 x1 = some (r, hf, dc, ds)) : mz_Go l g p e s m args below meth c 1 21 DC DS h0 none hf 4 0 [(0, false, va_rf a0), (1, false, .int x1)] [] h dc ds := by
  unfold fn_X10_start at hr
  intro H locs cells slots ls hH hS hl hc hs
  have X := Y.1
  refine lv_iload_n X.1 X.2.1 dX10_start_0 rfl (mz_at hl 1 rfl) ?_
  refine mz_istore_n X [(2, false, .int x1), (0, false, va_rf a0), (1, false, .int x1)] dX10_start_1 rfl hl (by decide) rfl (fun ls hl => ?_)
  refine lv_iconst (v := 0) X.1 X.2.1 dX10_start_2 (by decide) ?_
  refine mz_istore_n X [(3, false, .int 0), (2, false, .int x1), (0, false, va_rf a0), (1, false, .int x1)] dX10_start_3 rfl hl (by decide) rfl (fun ls hl => ?_)
  exact pf_X10_start_b4 r Y 1001 h a0 x1 0 _ _ hr H locs cells slots ls hH hS (mz_sub hl [2, 1, 0] rfl) hc hs
set_option maxRecDepth 100000 in
theorem ct_X10_start (l : Launch) (g : mz_G) (h : mz_H) (a0 : (Option Nat)) (x1 : Int32) (r : Unit) (hf : mz_H) (k n : Nat) (hr : fn_X10_start h a0 x1 = some (r, hf, k, n)) : mz_C l g yX10_start cX10_start 4 none 1 21 [va_rf a0, .int x1] h none hf k n := by
  refine mz_met (as := [(false, va_rf a0), (false, .int x1)]) (plainFor_of_name (by decide)) (mz_c1 (mz_cat_rf _) (mz_c1 rfl mz_c0)) (Nat.le_of_ble_eq_true rfl) ?_
  intro p e s m args below meth c Y
  exact pf_X10_start_b0 r Y h a0 x1 _ _ hr
theorem dX10_startedCount_0 : decode cX10_startedCount 0 = .ok (.iconst 0, 1) := by decide +kernel
theorem dX10_startedCount_1 : decode cX10_startedCount 1 = .ok (.istore_n 1, 1) := by decide +kernel
theorem dX10_startedCount_2 : decode cX10_startedCount 2 = .ok (.iconst 0, 1) := by decide +kernel
theorem dX10_startedCount_3 : decode cX10_startedCount 3 = .ok (.istore_n 2, 1) := by decide +kernel
theorem dX10_startedCount_4 : decode cX10_startedCount 4 = .ok (.iload_n 2, 1) := by decide +kernel
theorem dX10_startedCount_5 : decode cX10_startedCount 5 = .ok (.aload_n 0, 1) := by decide +kernel
theorem dX10_startedCount_6 : decode cX10_startedCount 6 = .ok (.getfield 25, 3) := by decide +kernel
theorem dX10_startedCount_9 : decode cX10_startedCount 9 = .ok (.if_icmp .ge 24, 3) := by decide +kernel
theorem dX10_startedCount_12 : decode cX10_startedCount 12 = .ok (.aload_n 0, 1) := by decide +kernel
theorem dX10_startedCount_13 : decode cX10_startedCount 13 = .ok (.getfield 11, 3) := by decide +kernel
theorem dX10_startedCount_16 : decode cX10_startedCount 16 = .ok (.iload_n 2, 1) := by decide +kernel
theorem dX10_startedCount_17 : decode cX10_startedCount 17 = .ok (.aaload, 1) := by decide +kernel
theorem dX10_startedCount_18 : decode cX10_startedCount 18 = .ok (.getfield 51, 3) := by decide +kernel
theorem dX10_startedCount_21 : decode cX10_startedCount 21 = .ok (.ifCond .eq 6, 3) := by decide +kernel
theorem dX10_startedCount_24 : decode cX10_startedCount 24 = .ok (.iinc 1 1, 3) := by decide +kernel
theorem dX10_startedCount_27 : decode cX10_startedCount 27 = .ok (.iinc 2 1, 3) := by decide +kernel
theorem dX10_startedCount_30 : decode cX10_startedCount 30 = .ok (.goto (-26), 3) := by decide +kernel
theorem dX10_startedCount_33 : decode cX10_startedCount 33 = .ok (.iload_n 1, 1) := by decide +kernel
theorem dX10_startedCount_34 : decode cX10_startedCount 34 = .ok (.ireturn, 1) := by decide +kernel
def fn_X10_startedCount_b27 (rc4 : mz_H → (Option Nat) → Int32 → Int32 → mz_Res Int32) (h : mz_H) (a0 : (Option Nat)) (x1 : Int32) (x2 : Int32) : mz_Res Int32 :=
  mz_op (some (x2 + 1)) fun v1 =>
  rc4 h a0 x1 v1
set_option maxHeartbeats 4000000 in
set_option maxRecDepth 100000 in
theorem pf_X10_startedCount_b27 (r : Int32) (Y : mz_Y p g RX10 cX10_startedCount 3 (some .int) "startedCount" (mz_AF h0) s m args meth c) {rc4 : mz_H → (Option Nat) → Int32 → Int32 → mz_Res Int32} (hrc4 : ∀ (h : mz_H) (a0 : (Option Nat)) (x1 : Int32) (x2 : Int32) (dc ds : Nat), rc4 h a0 x1 x2 = some (r, hf, dc, ds) → mz_Go l g p e s m args below meth c 0 0 DC DS h0 (some (Value.int r)) hf 3 4 [(0, false, va_rf a0), (1, false, .int x1), (2, false, .int x2)] [] h dc ds) (h : mz_H) (a0 : (Option Nat)) (x1 : Int32) (x2 : Int32) (dc ds : Nat) (hr : fn_X10_startedCount_b27 rc4 h a0 x1 x2 = some (r, hf, dc, ds)) : mz_Go l g p e s m args below meth c 0 0 DC DS h0 (some (Value.int r)) hf 3 27 [(0, false, va_rf a0), (1, false, .int x1), (2, false, .int x2)] [] h dc ds := by
  unfold fn_X10_startedCount_b27 at hr
  intro H locs cells slots ls hH hS hl hc hs
  have X := Y.1
  obtain ⟨v1, hv1, hr⟩ := mz_op_some hr
  have hv1 := Option.some.inj hv1
  refine mz_iinc (k := 2) X [(2, false, .int v1), (0, false, va_rf a0), (1, false, .int x1)] v1 dX10_startedCount_27 hl rfl hv1 (by decide) rfl (fun ls hl => ?_)
  refine lv_goto (tgt := 4) X.1 X.2.1 dX10_startedCount_30 (by decide) ?_
  exact hrc4 h a0 x1 v1 _ _ hr H locs cells slots ls hH hS (mz_sub hl [1, 2, 0] rfl) hc hs
def fn_X10_startedCount_b4 : Nat → mz_H → (Option Nat) → Int32 → Int32 → mz_Res Int32
  | 0, _, _, _, _ => none
  | n + 1, h, a0, x1, x2 =>
    mz_op (mz_fI h a0 9 1) fun v1 =>
    if v1 ≤ x2 then
      mz_ret x1 h
    else
      mz_op (mz_fR h a0 9 0) fun v2 =>
      mz_op (mz_aR h v2 18 x2) fun v3 =>
      mz_op (mz_fI h v3 8 10) fun v4 =>
      if v4 = 0 then
        fn_X10_startedCount_b27 (fn_X10_startedCount_b4 n) h a0 x1 x2
      else
        mz_op (some (x1 + 1)) fun v5 =>
        fn_X10_startedCount_b27 (fn_X10_startedCount_b4 n) h a0 v5 x2
set_option maxHeartbeats 4000000 in
set_option maxRecDepth 100000 in
theorem pf_X10_startedCount_b4 (r : Int32) (Y : mz_Y p g RX10 cX10_startedCount 3 (some .int) "startedCount" (mz_AF h0) s m args meth c) : ∀ (n : Nat) (h : mz_H) (a0 : (Option Nat)) (x1 : Int32) (x2 : Int32) (dc ds : Nat), fn_X10_startedCount_b4 n h a0 x1 x2 = some (r, hf, dc, ds) → mz_Go l g p e s m args below meth c 0 0 DC DS h0 (some (Value.int r)) hf 3 4 [(0, false, va_rf a0), (1, false, .int x1), (2, false, .int x2)] [] h dc ds := by
  have X := Y.1
  intro n
  induction n with
  | zero => intro h a0 x1 x2 dc ds hr; simp [fn_X10_startedCount_b4] at hr
  | succ n ih =>
    intro h a0 x1 x2 dc ds hr
    rw [fn_X10_startedCount_b4] at hr
    intro H locs cells slots ls hH hS hl hc hs
    refine lv_iload_n X.1 X.2.1 dX10_startedCount_4 rfl (mz_at hl 2 rfl) ?_
    refine mz_aload_n X dX10_startedCount_5 rfl (mz_at hl 0 rfl) ?_
    refine mz_getI X hH fl_RX10_25 dX10_startedCount_6 hr (fun v1 hr => ?_)
    refine mz_icmp_ge X 33 dX10_startedCount_9 (by decide) hr (fun hr => ?_) (fun hr => ?_)
    · refine lv_iload_n X.1 X.2.1 dX10_startedCount_33 rfl (mz_at hl 1 rfl) ?_
      exact mz_iret Y dX10_startedCount_34 hH hS hc hs hr
    · refine mz_aload_n X dX10_startedCount_12 rfl (mz_at hl 0 rfl) ?_
      refine mz_getR X hH fl_RX10_11 dX10_startedCount_13 hr (fun v2 hr => ?_)
      refine lv_iload_n X.1 X.2.1 dX10_startedCount_16 rfl (mz_at hl 2 rfl) ?_
      refine mz_aald (t := 18) X hH (by decide) rfl dX10_startedCount_17 hr (fun v3 hr => ?_)
      refine mz_getI X hH fl_RX10_51 dX10_startedCount_18 hr (fun v4 hr => ?_)
      refine mz_if_eq X 27 dX10_startedCount_21 (by decide) hr (fun hr => ?_) (fun hr => ?_)
      · exact pf_X10_startedCount_b27 r Y ih h a0 x1 x2 _ _ hr H locs cells slots ls hH hS (mz_sub hl [0, 1, 2] rfl) hc hs
      · obtain ⟨v5, hv5, hr⟩ := mz_op_some hr
        have hv5 := Option.some.inj hv5
        refine mz_iinc (k := 1) X [(1, false, .int v5), (0, false, va_rf a0), (2, false, .int x2)] v5 dX10_startedCount_24 hl rfl hv5 (by decide) rfl (fun ls hl => ?_)
        exact pf_X10_startedCount_b27 r Y ih h a0 v5 x2 _ _ hr H locs cells slots ls hH hS (mz_sub hl [1, 0, 2] rfl) hc hs
def fn_X10_startedCount (h : mz_H) (a0 : (Option Nat)) : mz_Res Int32 :=
  fn_X10_startedCount_b4 1001 h a0 0 0
set_option maxHeartbeats 4000000 in
set_option maxRecDepth 100000 in
theorem pf_X10_startedCount_b0 (r : Int32) (Y : mz_Y p g RX10 cX10_startedCount 3 (some .int) "startedCount" (mz_AF h0) s m args meth c) (h : mz_H) (a0 : (Option Nat)) (dc ds : Nat) (hr : fn_X10_startedCount h a0 = some (r, hf, dc, ds)) : mz_Go l g p e s m args below meth c 0 0 DC DS h0 (some (Value.int r)) hf 3 0 [(0, false, va_rf a0)] [] h dc ds := by
  unfold fn_X10_startedCount at hr
  intro H locs cells slots ls hH hS hl hc hs
  have X := Y.1
  refine lv_iconst (v := 0) X.1 X.2.1 dX10_startedCount_0 (by decide) ?_
  refine mz_istore_n X [(1, false, .int 0), (0, false, va_rf a0)] dX10_startedCount_1 rfl hl (by decide) rfl (fun ls hl => ?_)
  refine lv_iconst (v := 0) X.1 X.2.1 dX10_startedCount_2 (by decide) ?_
  refine mz_istore_n X [(2, false, .int 0), (1, false, .int 0), (0, false, va_rf a0)] dX10_startedCount_3 rfl hl (by decide) rfl (fun ls hl => ?_)
  exact pf_X10_startedCount_b4 r Y 1001 h a0 0 0 _ _ hr H locs cells slots ls hH hS (mz_sub hl [2, 1, 0] rfl) hc hs
set_option maxRecDepth 100000 in
theorem ct_X10_startedCount (l : Launch) (g : mz_G) (h : mz_H) (a0 : (Option Nat)) (r : Int32) (hf : mz_H) (k n : Nat) (hr : fn_X10_startedCount h a0 = some (r, hf, k, n)) : mz_C l g yX10_startedCount cX10_startedCount 3 (some .int) 0 0 [va_rf a0] h (some (Value.int r)) hf k n := by
  refine mz_met (as := [(false, va_rf a0)]) (plainFor_of_name (by decide)) (mz_c1 (mz_cat_rf _) mz_c0) (Nat.le_of_ble_eq_true rfl) ?_
  intro p e s m args below meth c Y
  exact pf_X10_startedCount_b0 r Y h a0 _ _ hr
theorem dX4_init_0 : decode cX4_init 0 = .ok (.aload_n 0, 1) := by decide +kernel
theorem dX4_init_1 : decode cX4_init 1 = .ok (.invokespecial 3, 3) := by decide +kernel
theorem dX4_init_4 : decode cX4_init 4 = .ok (.aload_n 0, 1) := by decide +kernel
theorem dX4_init_5 : decode cX4_init 5 = .ok (.iload_n 1, 1) := by decide +kernel
theorem dX4_init_6 : decode cX4_init 6 = .ok (.putfield 9, 3) := by decide +kernel
theorem dX4_init_9 : decode cX4_init 9 = .ok (.aload_n 0, 1) := by decide +kernel
theorem dX4_init_10 : decode cX4_init 10 = .ok (.iload_n 2, 1) := by decide +kernel
theorem dX4_init_11 : decode cX4_init 11 = .ok (.iconst 0, 1) := by decide +kernel
theorem dX4_init_12 : decode cX4_init 12 = .ok (.invokestatic 15, 3) := by decide +kernel
theorem dX4_init_15 : decode cX4_init 15 = .ok (.newarray .int, 2) := by decide +kernel
theorem dX4_init_17 : decode cX4_init 17 = .ok (.putfield 21, 3) := by decide +kernel
theorem dX4_init_20 : decode cX4_init 20 = .ok (.aload_n 0, 1) := by decide +kernel
theorem dX4_init_21 : decode cX4_init 21 = .ok (.getfield 21, 3) := by decide +kernel
theorem dX4_init_24 : decode cX4_init 24 = .ok (.bipush (-9), 2) := by decide +kernel
theorem dX4_init_26 : decode cX4_init 26 = .ok (.invokestatic 25, 3) := by decide +kernel
theorem dX4_init_29 : decode cX4_init 29 = .ok (.return_, 1) := by decide +kernel
def fn_X4_init (h : mz_H) (a0 : (Option Nat)) (x1 : Int32) (x2 : Int32) : mz_Res Unit :=
  mz_chk (a0).isSome <|
  mz_op (mz_pF h a0 3 0 (Value.int x1)) fun h =>
  mz_aN h 0 (if x2 < 0 then 0 else x2) (.inl (fun _ => 0)) fun v1 h =>
  mz_op (mz_pF h a0 3 1 (va_rf v1)) fun h =>
  mz_op (mz_fR h a0 3 1) fun v2 =>
  mz_call (fn_J_fillI h v2 (-9)) fun _ h =>
  mz_ret () h
set_option maxHeartbeats 4000000 in
set_option maxRecDepth 100000 in
theorem pf_X4_init_b0 (r : Unit) (Y : mz_Y p g RX4 cX4_init 3 none "<init>" (mz_AF h0) s m args meth c) (h : mz_H) (a0 : (Option Nat)) (x1 : Int32) (x2 : Int32) (dc ds : Nat) (hr : fn_X4_init h a0 x1 x2 = some (r, hf, dc, ds)) : mz_Go l g p e s m args below meth c 1 23 DC DS h0 none hf 3 0 [(0, false, va_rf a0), (1, false, .int x1), (2, false, .int x2)] [] h dc ds := by
  unfold fn_X4_init at hr
  intro H locs cells slots ls hH hS hl hc hs
  have X := Y.1
  refine mz_aload_n X dX4_init_0 rfl (mz_at hl 0 rfl) ?_
  refine mz_oinit X hl.1.1 oi_RX4_3 (Nat.le_of_ble_eq_true rfl) ⟨Nat.le_of_ble_eq_true rfl, Nat.le_of_ble_eq_true rfl⟩ dX4_init_1 hr (fun hr => ?_)
  refine mz_aload_n X dX4_init_4 rfl (mz_at hl 0 rfl) ?_
  refine lv_iload_n X.1 X.2.1 dX4_init_5 rfl (mz_at hl 1 rfl) ?_
  refine mz_putF X Y.2.2.2 hH hS fp_RX4_9 dX4_init_6 rfl rfl hr (fun h H locs hr hH hS => ?_)
  refine mz_aload_n X dX4_init_9 rfl (mz_at hl 0 rfl) ?_
  refine lv_iload_n X.1 X.2.1 dX4_init_10 rfl (mz_at hl 2 rfl) ?_
  refine lv_iconst (v := 0) X.1 X.2.1 dX4_init_11 (by decide) ?_
  refine mz_max X hl.1.1 mx_RX4_15 (Nat.le_of_ble_eq_true rfl) ⟨Nat.le_of_ble_eq_true rfl, Nat.le_of_ble_eq_true rfl⟩ hc hs dX4_init_12 ?_
  refine mz_kA (t := 0) X hH hS (by decide) rfl rfl (by decide) (mz_tb 93 (by decide +kernel) rfl) (fun _ _ => rfl) dX4_init_15 hr hc hs (fun v1 h H cells slots dc ds hr hH hS hc hs => ?_)
  refine mz_putF X Y.2.2.2 hH hS fp_RX4_21 dX4_init_17 (mz_nra _ _).1 (mz_nra _ _).2 hr (fun h H locs hr hH hS => ?_)
  refine mz_aload_n X dX4_init_20 rfl (mz_at hl 0 rfl) ?_
  refine mz_getR X hH fl_RX4_21 dX4_init_21 hr (fun v2 hr => ?_)
  refine lv_bipush (v := (-9)) X.1 X.2.1 dX4_init_24 (by decide) ?_
  refine mz_kS0 X hH hS hl.1.1 [va_rf v2, .int (-9)] [] hr (ct_J_fillI l g h v2 (-9)) mb_RX4_25 im_J_fillI rfl (Nat.le_of_ble_eq_true rfl) ⟨Nat.le_of_ble_eq_true rfl, Nat.le_of_ble_eq_true rfl⟩ hc hs dX4_init_26 rfl (fun _ h H locs cells slots dc ds hr hH hS hc hs => ?_)
  exact mz_vret Y dX4_init_29 hH hS hc hs hr
set_option maxRecDepth 100000 in
theorem ct_X4_init (l : Launch) (g : mz_G) (h : mz_H) (a0 : (Option Nat)) (x1 : Int32) (x2 : Int32) (r : Unit) (hf : mz_H) (k n : Nat) (hr : fn_X4_init h a0 x1 x2 = some (r, hf, k, n)) : mz_C l g yX4_init cX4_init 3 none 1 23 [va_rf a0, .int x1, .int x2] h none hf k n := by
  refine mz_met (as := [(false, va_rf a0), (false, .int x1), (false, .int x2)]) (plainFor_of_name (by decide)) (mz_c1 (mz_cat_rf _) (mz_c1 rfl (mz_c1 rfl mz_c0))) (Nat.le_of_ble_eq_true rfl) ?_
  intro p e s m args below meth c Y
  exact pf_X4_init_b0 r Y h a0 x1 x2 _ _ hr
theorem dX4_has_0 : decode cX4_has 0 = .ok (.iload_n 1, 1) := by decide +kernel
theorem dX4_has_1 : decode cX4_has 1 = .ok (.ifCond .lt 16, 3) := by decide +kernel
theorem dX4_has_4 : decode cX4_has 4 = .ok (.iload_n 1, 1) := by decide +kernel
theorem dX4_has_5 : decode cX4_has 5 = .ok (.aload_n 0, 1) := by decide +kernel
theorem dX4_has_6 : decode cX4_has 6 = .ok (.getfield 21, 3) := by decide +kernel
theorem dX4_has_9 : decode cX4_has 9 = .ok (.arraylength, 1) := by decide +kernel
theorem dX4_has_10 : decode cX4_has 10 = .ok (.if_icmp .ge 7, 3) := by decide +kernel
theorem dX4_has_13 : decode cX4_has 13 = .ok (.iconst 1, 1) := by decide +kernel
theorem dX4_has_14 : decode cX4_has 14 = .ok (.goto 4, 3) := by decide +kernel
theorem dX4_has_17 : decode cX4_has 17 = .ok (.iconst 0, 1) := by decide +kernel
theorem dX4_has_18 : decode cX4_has 18 = .ok (.ireturn, 1) := by decide +kernel
def fn_X4_has (h : mz_H) (a0 : (Option Nat)) (x1 : Int32) : mz_Res Int32 :=
  if x1 < 0 then
    mz_chk ((0 : Int32) &&& 1 == 0) (mz_ret 0 h)
  else
    mz_op (mz_fR h a0 3 1) fun v1 =>
    mz_op (mz_len h v1 0) fun v2 =>
    if v2 ≤ x1 then
      mz_chk ((0 : Int32) &&& 1 == 0) (mz_ret 0 h)
    else
      mz_chk ((1 : Int32) &&& 1 == 1) (mz_ret 1 h)
set_option maxHeartbeats 4000000 in
set_option maxRecDepth 100000 in
theorem pf_X4_has_b0 (r : Int32) (Y : mz_Y p g RX4 cX4_has 2 (some .boolean) "has" (mz_AF h0) s m args meth c) (h : mz_H) (a0 : (Option Nat)) (x1 : Int32) (dc ds : Nat) (hr : fn_X4_has h a0 x1 = some (r, hf, dc, ds)) : mz_Go l g p e s m args below meth c 0 0 DC DS h0 (some (Value.int r)) hf 2 0 [(0, false, va_rf a0), (1, false, .int x1)] [] h dc ds := by
  unfold fn_X4_has at hr
  intro H locs cells slots ls hH hS hl hc hs
  have X := Y.1
  refine lv_iload_n X.1 X.2.1 dX4_has_0 rfl (mz_at hl 1 rfl) ?_
  refine mz_if_lt X 17 dX4_has_1 (by decide) hr (fun hr => ?_) (fun hr => ?_)
  · refine lv_iconst (v := 0) X.1 X.2.1 dX4_has_17 (by decide) ?_
    exact mz_zret Y dX4_has_18 hH hS hc hs hr
  · refine lv_iload_n X.1 X.2.1 dX4_has_4 rfl (mz_at hl 1 rfl) ?_
    refine mz_aload_n X dX4_has_5 rfl (mz_at hl 0 rfl) ?_
    refine mz_getR X hH fl_RX4_21 dX4_has_6 hr (fun v1 hr => ?_)
    refine mz_alen (t := 0) X hH (by decide) dX4_has_9 hr (fun v2 hr => ?_)
    refine mz_icmp_ge X 17 dX4_has_10 (by decide) hr (fun hr => ?_) (fun hr => ?_)
    · refine lv_iconst (v := 0) X.1 X.2.1 dX4_has_17 (by decide) ?_
      exact mz_zret Y dX4_has_18 hH hS hc hs hr
    · refine lv_iconst (v := 1) X.1 X.2.1 dX4_has_13 (by decide) ?_
      refine lv_goto (tgt := 18) X.1 X.2.1 dX4_has_14 (by decide) ?_
      exact mz_zret Y dX4_has_18 hH hS hc hs hr
set_option maxRecDepth 100000 in
theorem ct_X4_has (l : Launch) (g : mz_G) (h : mz_H) (a0 : (Option Nat)) (x1 : Int32) (r : Int32) (hf : mz_H) (k n : Nat) (hr : fn_X4_has h a0 x1 = some (r, hf, k, n)) : mz_C l g yX4_has cX4_has 2 (some .boolean) 0 0 [va_rf a0, .int x1] h (some (Value.int r)) hf k n := by
  refine mz_met (as := [(false, va_rf a0), (false, .int x1)]) (plainFor_of_name (by decide)) (mz_c1 (mz_cat_rf _) (mz_c1 rfl mz_c0)) (Nat.le_of_ble_eq_true rfl) ?_
  intro p e s m args below meth c Y
  exact pf_X4_has_b0 r Y h a0 x1 _ _ hr
theorem dX4_takesType_0 : decode cX4_takesType 0 = .ok (.aload_n 0, 1) := by decide +kernel
theorem dX4_takesType_1 : decode cX4_takesType 1 = .ok (.getfield 9, 3) := by decide +kernel
theorem dX4_takesType_4 : decode cX4_takesType 4 = .ok (.ifCond .ne 5, 3) := by decide +kernel
theorem dX4_takesType_7 : decode cX4_takesType 7 = .ok (.iconst 1, 1) := by decide +kernel
theorem dX4_takesType_8 : decode cX4_takesType 8 = .ok (.ireturn, 1) := by decide +kernel
theorem dX4_takesType_9 : decode cX4_takesType 9 = .ok (.aload_n 0, 1) := by decide +kernel
theorem dX4_takesType_10 : decode cX4_takesType 10 = .ok (.getfield 9, 3) := by decide +kernel
theorem dX4_takesType_13 : decode cX4_takesType 13 = .ok (.iconst 1, 1) := by decide +kernel
theorem dX4_takesType_14 : decode cX4_takesType 14 = .ok (.if_icmp .ne 8, 3) := by decide +kernel
theorem dX4_takesType_17 : decode cX4_takesType 17 = .ok (.aload_n 1, 1) := by decide +kernel
theorem dX4_takesType_18 : decode cX4_takesType 18 = .ok (.invokevirtual 31, 3) := by decide +kernel
theorem dX4_takesType_21 : decode cX4_takesType 21 = .ok (.ireturn, 1) := by decide +kernel
theorem dX4_takesType_22 : decode cX4_takesType 22 = .ok (.aload_n 1, 1) := by decide +kernel
theorem dX4_takesType_23 : decode cX4_takesType 23 = .ok (.getfield 37, 3) := by decide +kernel
theorem dX4_takesType_26 : decode cX4_takesType 26 = .ok (.iconst 4, 1) := by decide +kernel
theorem dX4_takesType_27 : decode cX4_takesType 27 = .ok (.if_icmp .eq 11, 3) := by decide +kernel
theorem dX4_takesType_30 : decode cX4_takesType 30 = .ok (.aload_n 1, 1) := by decide +kernel
theorem dX4_takesType_31 : decode cX4_takesType 31 = .ok (.getfield 37, 3) := by decide +kernel
theorem dX4_takesType_34 : decode cX4_takesType 34 = .ok (.iconst 5, 1) := by decide +kernel
theorem dX4_takesType_35 : decode cX4_takesType 35 = .ok (.if_icmp .ne 7, 3) := by decide +kernel
theorem dX4_takesType_38 : decode cX4_takesType 38 = .ok (.iconst 1, 1) := by decide +kernel
theorem dX4_takesType_39 : decode cX4_takesType 39 = .ok (.goto 4, 3) := by decide +kernel
theorem dX4_takesType_42 : decode cX4_takesType 42 = .ok (.iconst 0, 1) := by decide +kernel
theorem dX4_takesType_43 : decode cX4_takesType 43 = .ok (.ireturn, 1) := by decide +kernel
def fn_X4_takesType_b38 (h : mz_H) : mz_Res Int32 :=
  mz_chk ((1 : Int32) &&& 1 == 1) (mz_ret 1 h)
set_option maxHeartbeats 4000000 in
set_option maxRecDepth 100000 in
theorem pf_X4_takesType_b38 (r : Int32) (Y : mz_Y p g RX4 cX4_takesType 2 (some .boolean) "takesType" (mz_AF h0) s m args meth c) (h : mz_H) (dc ds : Nat) (hr : fn_X4_takesType_b38 h = some (r, hf, dc, ds)) : mz_Go l g p e s m args below meth c 1 20 DC DS h0 (some (Value.int r)) hf 2 38 [] [] h dc ds := by
  unfold fn_X4_takesType_b38 at hr
  intro H locs cells slots ls hH hS hl hc hs
  have X := Y.1
  refine lv_iconst (v := 1) X.1 X.2.1 dX4_takesType_38 (by decide) ?_
  refine lv_goto (tgt := 43) X.1 X.2.1 dX4_takesType_39 (by decide) ?_
  exact mz_zret Y dX4_takesType_43 hH hS hc hs hr
def fn_X4_takesType (h : mz_H) (a0 : (Option Nat)) (a1 : (Option Nat)) : mz_Res Int32 :=
  mz_op (mz_fI h a0 3 0) fun v1 =>
  if v1 = 0 then
    mz_chk ((1 : Int32) &&& 1 == 1) (mz_ret 1 h)
  else
    mz_op (mz_fI h a0 3 0) fun v2 =>
    if v2 = 1 then
      mz_chk (mz_is h a1 8) <| mz_call (fn_X9_isPlainOrRecord h a1) fun v5 h =>
      mz_chk (v5 &&& 1 == v5) (mz_ret v5 h)
    else
      mz_op (mz_fI h a1 8 0) fun v3 =>
      if v3 = 4 then
        fn_X4_takesType_b38 h
      else
        mz_op (mz_fI h a1 8 0) fun v4 =>
        if v4 = 5 then
          fn_X4_takesType_b38 h
        else
          mz_chk ((0 : Int32) &&& 1 == 0) (mz_ret 0 h)
set_option maxHeartbeats 4000000 in
set_option maxRecDepth 100000 in
theorem pf_X4_takesType_b0 (r : Int32) (Y : mz_Y p g RX4 cX4_takesType 2 (some .boolean) "takesType" (mz_AF h0) s m args meth c) (h : mz_H) (a0 : (Option Nat)) (a1 : (Option Nat)) (dc ds : Nat) (hr : fn_X4_takesType h a0 a1 = some (r, hf, dc, ds)) : mz_Go l g p e s m args below meth c 1 20 DC DS h0 (some (Value.int r)) hf 2 0 [(0, false, va_rf a0), (1, false, va_rf a1)] [] h dc ds := by
  unfold fn_X4_takesType at hr
  intro H locs cells slots ls hH hS hl hc hs
  have X := Y.1
  refine mz_aload_n X dX4_takesType_0 rfl (mz_at hl 0 rfl) ?_
  refine mz_getI X hH fl_RX4_9 dX4_takesType_1 hr (fun v1 hr => ?_)
  refine mz_if_ne X 9 dX4_takesType_4 (by decide) hr (fun hr => ?_) (fun hr => ?_)
  · refine mz_aload_n X dX4_takesType_9 rfl (mz_at hl 0 rfl) ?_
    refine mz_getI X hH fl_RX4_9 dX4_takesType_10 hr (fun v2 hr => ?_)
    refine lv_iconst (v := 1) X.1 X.2.1 dX4_takesType_13 (by decide) ?_
    refine mz_icmp_ne X 22 dX4_takesType_14 (by decide) hr (fun hr => ?_) (fun hr => ?_)
    · refine mz_aload_n X dX4_takesType_22 rfl (mz_at hl 1 rfl) ?_
      refine mz_getI X hH fl_RX4_37 dX4_takesType_23 hr (fun v3 hr => ?_)
      refine lv_iconst (v := 4) X.1 X.2.1 dX4_takesType_26 (by decide) ?_
      refine mz_icmp_eq X 38 dX4_takesType_27 (by decide) hr (fun hr => ?_) (fun hr => ?_)
      · exact pf_X4_takesType_b38 r Y h  _ _ hr H locs cells slots ls hH hS (mz_sub hl [] rfl) hc hs
      · refine mz_aload_n X dX4_takesType_30 rfl (mz_at hl 1 rfl) ?_
        refine mz_getI X hH fl_RX4_37 dX4_takesType_31 hr (fun v4 hr => ?_)
        refine lv_iconst (v := 5) X.1 X.2.1 dX4_takesType_34 (by decide) ?_
        refine mz_icmp_ne X 42 dX4_takesType_35 (by decide) hr (fun hr => ?_) (fun hr => ?_)
        · refine lv_iconst (v := 0) X.1 X.2.1 dX4_takesType_42 (by decide) ?_
          exact mz_zret Y dX4_takesType_43 hH hS hc hs hr
        · exact pf_X4_takesType_b38 r Y h  _ _ hr H locs cells slots ls hH hS (mz_sub hl [] rfl) hc hs
    · refine mz_aload_n X dX4_takesType_17 rfl (mz_at hl 1 rfl) ?_
      refine mz_kV Value.int X hH hS hl.1.1 [] [] hr (ct_X9_isPlainOrRecord l g h a1) mb_RX4_31 rfl im_X9_isPlainOrRecord rfl (Nat.le_of_ble_eq_true rfl) ⟨Nat.le_of_ble_eq_true rfl, Nat.le_of_ble_eq_true rfl⟩ hc hs dX4_takesType_18 rfl (fun v5 h H locs cells slots dc ds hr hH hS hc hs => ?_)
      exact mz_zret Y dX4_takesType_21 hH hS hc hs hr
  · refine lv_iconst (v := 1) X.1 X.2.1 dX4_takesType_7 (by decide) ?_
    exact mz_zret Y dX4_takesType_8 hH hS hc hs hr
set_option maxRecDepth 100000 in
theorem ct_X4_takesType (l : Launch) (g : mz_G) (h : mz_H) (a0 : (Option Nat)) (a1 : (Option Nat)) (r : Int32) (hf : mz_H) (k n : Nat) (hr : fn_X4_takesType h a0 a1 = some (r, hf, k, n)) : mz_C l g yX4_takesType cX4_takesType 2 (some .boolean) 1 20 [va_rf a0, va_rf a1] h (some (Value.int r)) hf k n := by
  refine mz_met (as := [(false, va_rf a0), (false, va_rf a1)]) (plainFor_of_name (by decide)) (mz_c1 (mz_cat_rf _) (mz_c1 (mz_cat_rf _) mz_c0)) (Nat.le_of_ble_eq_true rfl) ?_
  intro p e s m args below meth c Y
  exact pf_X4_takesType_b0 r Y h a0 a1 _ _ hr
theorem dX5_init_0 : decode cX5_init 0 = .ok (.aload_n 0, 1) := by decide +kernel
theorem dX5_init_1 : decode cX5_init 1 = .ok (.invokespecial 3, 3) := by decide +kernel
theorem dX5_init_4 : decode cX5_init 4 = .ok (.aload_n 0, 1) := by decide +kernel
theorem dX5_init_5 : decode cX5_init 5 = .ok (.iload_n 1, 1) := by decide +kernel
theorem dX5_init_6 : decode cX5_init 6 = .ok (.iconst 0, 1) := by decide +kernel
theorem dX5_init_7 : decode cX5_init 7 = .ok (.invokestatic 9, 3) := by decide +kernel
theorem dX5_init_10 : decode cX5_init 10 = .ok (.newarray .long, 2) := by decide +kernel
theorem dX5_init_12 : decode cX5_init 12 = .ok (.putfield 15, 3) := by decide +kernel
theorem dX5_init_15 : decode cX5_init 15 = .ok (.iload_n 2, 1) := by decide +kernel
theorem dX5_init_16 : decode cX5_init 16 = .ok (.bipush 8, 2) := by decide +kernel
theorem dX5_init_18 : decode cX5_init 18 = .ok (.if_icmp .ne 13, 3) := by decide +kernel
theorem dX5_init_21 : decode cX5_init 21 = .ok (.aload_n 0, 1) := by decide +kernel
theorem dX5_init_22 : decode cX5_init 22 = .ok (.getfield 15, 3) := by decide +kernel
theorem dX5_init_25 : decode cX5_init 25 = .ok (.ldc2_w 21, 3) := by decide +kernel
theorem dX5_init_28 : decode cX5_init 28 = .ok (.invokestatic 23, 3) := by decide +kernel
theorem dX5_init_31 : decode cX5_init 31 = .ok (.return_, 1) := by decide +kernel
def fn_X5_init (h : mz_H) (a0 : (Option Nat)) (x1 : Int32) (x2 : Int32) : mz_Res Unit :=
  mz_chk (a0).isSome <|
  mz_aN h 1 (if x1 < 0 then 0 else x1) (.inr (.inl (fun _ => 0))) fun v1 h =>
  mz_op (mz_pF h a0 4 0 (va_rf v1)) fun h =>
  if x2 = 8 then
    mz_op (mz_fR h a0 4 0) fun v2 =>
    mz_call (fn_J_fillJ h v2 (-9)) fun _ h =>
    mz_ret () h
  else
    mz_ret () h
set_option maxHeartbeats 4000000 in
set_option maxRecDepth 100000 in
theorem pf_X5_init_b0 (r : Unit) (Y : mz_Y p g RX5 cX5_init 3 none "<init>" (mz_AF h0) s m args meth c) (h : mz_H) (a0 : (Option Nat)) (x1 : Int32) (x2 : Int32) (dc ds : Nat) (hr : fn_X5_init h a0 x1 x2 = some (r, hf, dc, ds)) : mz_Go l g p e s m args below meth c 1 24 DC DS h0 none hf 3 0 [(0, false, va_rf a0), (1, false, .int x1), (2, false, .int x2)] [] h dc ds := by
  unfold fn_X5_init at hr
  intro H locs cells slots ls hH hS hl hc hs
  have X := Y.1
  refine mz_aload_n X dX5_init_0 rfl (mz_at hl 0 rfl) ?_
  refine mz_oinit X hl.1.1 oi_RX5_3 (Nat.le_of_ble_eq_true rfl) ⟨Nat.le_of_ble_eq_true rfl, Nat.le_of_ble_eq_true rfl⟩ dX5_init_1 hr (fun hr => ?_)
  refine mz_aload_n X dX5_init_4 rfl (mz_at hl 0 rfl) ?_
  refine lv_iload_n X.1 X.2.1 dX5_init_5 rfl (mz_at hl 1 rfl) ?_
  refine lv_iconst (v := 0) X.1 X.2.1 dX5_init_6 (by decide) ?_
  refine mz_max X hl.1.1 mx_RX5_9 (Nat.le_of_ble_eq_true rfl) ⟨Nat.le_of_ble_eq_true rfl, Nat.le_of_ble_eq_true rfl⟩ hc hs dX5_init_7 ?_
  refine mz_kA (t := 1) X hH hS (by decide) rfl rfl (by decide) (mz_tb 201 (by decide +kernel) rfl) (fun _ _ => rfl) dX5_init_10 hr hc hs (fun v1 h H cells slots dc ds hr hH hS hc hs => ?_)
  refine mz_putF X Y.2.2.2 hH hS fp_RX5_15 dX5_init_12 (mz_nra _ _).1 (mz_nra _ _).2 hr (fun h H locs hr hH hS => ?_)
  refine lv_iload_n X.1 X.2.1 dX5_init_15 rfl (mz_at hl 2 rfl) ?_
  refine lv_bipush (v := 8) X.1 X.2.1 dX5_init_16 (by decide) ?_
  refine mz_icmp_ne X 31 dX5_init_18 (by decide) hr (fun hr => ?_) (fun hr => ?_)
  · exact mz_vret Y dX5_init_31 hH hS hc hs hr
  · refine mz_aload_n X dX5_init_21 rfl (mz_at hl 0 rfl) ?_
    refine mz_getR X hH fl_RX5_15 dX5_init_22 hr (fun v2 hr => ?_)
    refine mz_ldc2 (v := (-9)) X (mz_tb 520 (by decide +kernel) rfl) dX5_init_25 ?_
    refine mz_kS0 X hH hS hl.1.1 [va_rf v2, .long (-9)] [] hr (ct_J_fillJ l g h v2 (-9)) mb_RX5_23 im_J_fillJ rfl (Nat.le_of_ble_eq_true rfl) ⟨Nat.le_of_ble_eq_true rfl, Nat.le_of_ble_eq_true rfl⟩ hc hs dX5_init_28 rfl (fun _ h H locs cells slots dc ds hr hH hS hc hs => ?_)
    exact mz_vret Y dX5_init_31 hH hS hc hs hr
set_option maxRecDepth 100000 in
theorem ct_X5_init (l : Launch) (g : mz_G) (h : mz_H) (a0 : (Option Nat)) (x1 : Int32) (x2 : Int32) (r : Unit) (hf : mz_H) (k n : Nat) (hr : fn_X5_init h a0 x1 x2 = some (r, hf, k, n)) : mz_C l g yX5_init cX5_init 3 none 1 24 [va_rf a0, .int x1, .int x2] h none hf k n := by
  refine mz_met (as := [(false, va_rf a0), (false, .int x1), (false, .int x2)]) (plainFor_of_name (by decide)) (mz_c1 (mz_cat_rf _) (mz_c1 rfl (mz_c1 rfl mz_c0))) (Nat.le_of_ble_eq_true rfl) ?_
  intro p e s m args below meth c Y
  exact pf_X5_init_b0 r Y h a0 x1 x2 _ _ hr
theorem dX5_init__0 : decode cX5_init_ 0 = .ok (.aload_n 0, 1) := by decide +kernel
theorem dX5_init__1 : decode cX5_init_ 1 = .ok (.invokespecial 3, 3) := by decide +kernel
theorem dX5_init__4 : decode cX5_init_ 4 = .ok (.aload_n 0, 1) := by decide +kernel
theorem dX5_init__5 : decode cX5_init_ 5 = .ok (.aload_n 1, 1) := by decide +kernel
theorem dX5_init__6 : decode cX5_init_ 6 = .ok (.getfield 15, 3) := by decide +kernel
theorem dX5_init__9 : decode cX5_init_ 9 = .ok (.invokevirtual 29, 3) := by decide +kernel
theorem dX5_init__12 : decode cX5_init_ 12 = .ok (.checkcast 30, 3) := by decide +kernel
theorem dX5_init__15 : decode cX5_init_ 15 = .ok (.putfield 15, 3) := by decide +kernel
theorem dX5_init__18 : decode cX5_init_ 18 = .ok (.return_, 1) := by decide +kernel
def fn_X5_init_ (h : mz_H) (a0 : (Option Nat)) (a1 : (Option Nat)) : mz_Res Unit :=
  mz_chk (a0).isSome <|
  mz_op (mz_fR h a1 4 0) fun v1 =>
  mz_cl h v1 fun v2 h =>
  mz_chk (mz_arJ h v2).isSome <|
  mz_op (mz_pF h a0 4 0 (va_rf v2)) fun h =>
  mz_ret () h
set_option maxHeartbeats 4000000 in
set_option maxRecDepth 100000 in
theorem pf_X5_init__b0 (r : Unit) (Y : mz_Y p g RX5 cX5_init_ 2 none "<init>" (mz_AF h0) s m args meth c) (h : mz_H) (a0 : (Option Nat)) (a1 : (Option Nat)) (dc ds : Nat) (hr : fn_X5_init_ h a0 a1 = some (r, hf, dc, ds)) : mz_Go l g p e s m args below meth c 1 22 DC DS h0 none hf 2 0 [(0, false, va_rf a0), (1, false, va_rf a1)] [] h dc ds := by
  unfold fn_X5_init_ at hr
  intro H locs cells slots ls hH hS hl hc hs
  have X := Y.1
  refine mz_aload_n X dX5_init__0 rfl (mz_at hl 0 rfl) ?_
  refine mz_oinit X hl.1.1 oi_RX5_3 (Nat.le_of_ble_eq_true rfl) ⟨Nat.le_of_ble_eq_true rfl, Nat.le_of_ble_eq_true rfl⟩ dX5_init__1 hr (fun hr => ?_)
  refine mz_aload_n X dX5_init__4 rfl (mz_at hl 0 rfl) ?_
  refine mz_aload_n X dX5_init__5 rfl (mz_at hl 1 rfl) ?_
  refine mz_getR X hH fl_RX5_15 dX5_init__6 hr (fun v1 hr => ?_)
  refine mz_kC X hH hS hl.1.1 ⟨mz_tb 780 (by decide +kernel) rfl, mz_tb 781 (by decide +kernel) rfl, mz_tb 782 (by decide +kernel) rfl, mz_tb 783 (by decide +kernel) rfl, mz_tb 784 (by decide +kernel) rfl⟩ (Nat.le_of_ble_eq_true rfl) ⟨Nat.le_of_ble_eq_true rfl, Nat.le_of_ble_eq_true rfl⟩ dX5_init__9 hr hc hs (fun v2 h H cells slots dc ds hr hH hS hc hs => ?_)
  refine mz_cast X hH (mz_tb 786 (by decide +kernel) rfl) dX5_init__12 hr (fun hr => ?_)
  refine mz_putF X Y.2.2.2 hH hS fp_RX5_15 dX5_init__15 (mz_nra _ _).1 (mz_nra _ _).2 hr (fun h H locs hr hH hS => ?_)
  exact mz_vret Y dX5_init__18 hH hS hc hs hr
set_option maxRecDepth 100000 in
theorem ct_X5_init_ (l : Launch) (g : mz_G) (h : mz_H) (a0 : (Option Nat)) (a1 : (Option Nat)) (r : Unit) (hf : mz_H) (k n : Nat) (hr : fn_X5_init_ h a0 a1 = some (r, hf, k, n)) : mz_C l g yX5_init_ cX5_init_ 2 none 1 22 [va_rf a0, va_rf a1] h none hf k n := by
  refine mz_met (as := [(false, va_rf a0), (false, va_rf a1)]) (plainFor_of_name (by decide)) (mz_c1 (mz_cat_rf _) (mz_c1 (mz_cat_rf _) mz_c0)) (Nat.le_of_ble_eq_true rfl) ?_
  intro p e s m args below meth c Y
  exact pf_X5_init__b0 r Y h a0 a1 _ _ hr
theorem dX5_has_0 : decode cX5_has 0 = .ok (.iload_n 1, 1) := by decide +kernel
theorem dX5_has_1 : decode cX5_has 1 = .ok (.ifCond .lt 16, 3) := by decide +kernel
theorem dX5_has_4 : decode cX5_has 4 = .ok (.iload_n 1, 1) := by decide +kernel
theorem dX5_has_5 : decode cX5_has 5 = .ok (.aload_n 0, 1) := by decide +kernel
theorem dX5_has_6 : decode cX5_has 6 = .ok (.getfield 15, 3) := by decide +kernel
theorem dX5_has_9 : decode cX5_has 9 = .ok (.arraylength, 1) := by decide +kernel
theorem dX5_has_10 : decode cX5_has 10 = .ok (.if_icmp .ge 7, 3) := by decide +kernel
theorem dX5_has_13 : decode cX5_has 13 = .ok (.iconst 1, 1) := by decide +kernel
theorem dX5_has_14 : decode cX5_has 14 = .ok (.goto 4, 3) := by decide +kernel
theorem dX5_has_17 : decode cX5_has 17 = .ok (.iconst 0, 1) := by decide +kernel
theorem dX5_has_18 : decode cX5_has 18 = .ok (.ireturn, 1) := by decide +kernel
def fn_X5_has (h : mz_H) (a0 : (Option Nat)) (x1 : Int32) : mz_Res Int32 :=
  if x1 < 0 then
    mz_chk ((0 : Int32) &&& 1 == 0) (mz_ret 0 h)
  else
    mz_op (mz_fR h a0 4 0) fun v1 =>
    mz_op (mz_len h v1 1) fun v2 =>
    if v2 ≤ x1 then
      mz_chk ((0 : Int32) &&& 1 == 0) (mz_ret 0 h)
    else
      mz_chk ((1 : Int32) &&& 1 == 1) (mz_ret 1 h)
set_option maxHeartbeats 4000000 in
set_option maxRecDepth 100000 in
theorem pf_X5_has_b0 (r : Int32) (Y : mz_Y p g RX5 cX5_has 2 (some .boolean) "has" (mz_AF h0) s m args meth c) (h : mz_H) (a0 : (Option Nat)) (x1 : Int32) (dc ds : Nat) (hr : fn_X5_has h a0 x1 = some (r, hf, dc, ds)) : mz_Go l g p e s m args below meth c 0 0 DC DS h0 (some (Value.int r)) hf 2 0 [(0, false, va_rf a0), (1, false, .int x1)] [] h dc ds := by
  unfold fn_X5_has at hr
  intro H locs cells slots ls hH hS hl hc hs
  have X := Y.1
  refine lv_iload_n X.1 X.2.1 dX5_has_0 rfl (mz_at hl 1 rfl) ?_
  refine mz_if_lt X 17 dX5_has_1 (by decide) hr (fun hr => ?_) (fun hr => ?_)
  · refine lv_iconst (v := 0) X.1 X.2.1 dX5_has_17 (by decide) ?_
    exact mz_zret Y dX5_has_18 hH hS hc hs hr
  · refine lv_iload_n X.1 X.2.1 dX5_has_4 rfl (mz_at hl 1 rfl) ?_
    refine mz_aload_n X dX5_has_5 rfl (mz_at hl 0 rfl) ?_
    refine mz_getR X hH fl_RX5_15 dX5_has_6 hr (fun v1 hr => ?_)
    refine mz_alen (t := 1) X hH (by decide) dX5_has_9 hr (fun v2 hr => ?_)
    refine mz_icmp_ge X 17 dX5_has_10 (by decide) hr (fun hr => ?_) (fun hr => ?_)
    · refine lv_iconst (v := 0) X.1 X.2.1 dX5_has_17 (by decide) ?_
      exact mz_zret Y dX5_has_18 hH hS hc hs hr
    · refine lv_iconst (v := 1) X.1 X.2.1 dX5_has_13 (by decide) ?_
      refine lv_goto (tgt := 18) X.1 X.2.1 dX5_has_14 (by decide) ?_
      exact mz_zret Y dX5_has_18 hH hS hc hs hr
set_option maxRecDepth 100000 in
theorem ct_X5_has (l : Launch) (g : mz_G) (h : mz_H) (a0 : (Option Nat)) (x1 : Int32) (r : Int32) (hf : mz_H) (k n : Nat) (hr : fn_X5_has h a0 x1 = some (r, hf, k, n)) : mz_C l g yX5_has cX5_has 2 (some .boolean) 0 0 [va_rf a0, .int x1] h (some (Value.int r)) hf k n := by
  refine mz_met (as := [(false, va_rf a0), (false, .int x1)]) (plainFor_of_name (by decide)) (mz_c1 (mz_cat_rf _) (mz_c1 rfl mz_c0)) (Nat.le_of_ble_eq_true rfl) ?_
  intro p e s m args below meth c Y
  exact pf_X5_has_b0 r Y h a0 x1 _ _ hr
theorem dX5_hasRange_0 : decode cX5_hasRange 0 = .ok (.iload_n 1, 1) := by decide +kernel
theorem dX5_hasRange_1 : decode cX5_hasRange 1 = .ok (.ifCond .lt 31, 3) := by decide +kernel
theorem dX5_hasRange_4 : decode cX5_hasRange 4 = .ok (.iload_n 1, 1) := by decide +kernel
theorem dX5_hasRange_5 : decode cX5_hasRange 5 = .ok (.aload_n 0, 1) := by decide +kernel
theorem dX5_hasRange_6 : decode cX5_hasRange 6 = .ok (.getfield 15, 3) := by decide +kernel
theorem dX5_hasRange_9 : decode cX5_hasRange 9 = .ok (.arraylength, 1) := by decide +kernel
theorem dX5_hasRange_10 : decode cX5_hasRange 10 = .ok (.if_icmp .gt 22, 3) := by decide +kernel
theorem dX5_hasRange_13 : decode cX5_hasRange 13 = .ok (.iload_n 2, 1) := by decide +kernel
theorem dX5_hasRange_14 : decode cX5_hasRange 14 = .ok (.ifCond .lt 18, 3) := by decide +kernel
theorem dX5_hasRange_17 : decode cX5_hasRange 17 = .ok (.iload_n 2, 1) := by decide +kernel
theorem dX5_hasRange_18 : decode cX5_hasRange 18 = .ok (.aload_n 0, 1) := by decide +kernel
theorem dX5_hasRange_19 : decode cX5_hasRange 19 = .ok (.getfield 15, 3) := by decide +kernel
theorem dX5_hasRange_22 : decode cX5_hasRange 22 = .ok (.arraylength, 1) := by decide +kernel
theorem dX5_hasRange_23 : decode cX5_hasRange 23 = .ok (.iload_n 1, 1) := by decide +kernel
theorem dX5_hasRange_24 : decode cX5_hasRange 24 = .ok (.isub, 1) := by decide +kernel
theorem dX5_hasRange_25 : decode cX5_hasRange 25 = .ok (.if_icmp .gt 7, 3) := by decide +kernel
theorem dX5_hasRange_28 : decode cX5_hasRange 28 = .ok (.iconst 1, 1) := by decide +kernel
theorem dX5_hasRange_29 : decode cX5_hasRange 29 = .ok (.goto 4, 3) := by decide +kernel
theorem dX5_hasRange_32 : decode cX5_hasRange 32 = .ok (.iconst 0, 1) := by decide +kernel
theorem dX5_hasRange_33 : decode cX5_hasRange 33 = .ok (.ireturn, 1) := by decide +kernel
def fn_X5_hasRange (h : mz_H) (a0 : (Option Nat)) (x1 : Int32) (x2 : Int32) : mz_Res Int32 :=
  if x1 < 0 then
    mz_chk ((0 : Int32) &&& 1 == 0) (mz_ret 0 h)
  else
    mz_op (mz_fR h a0 4 0) fun v1 =>
    mz_op (mz_len h v1 1) fun v2 =>
    if v2 < x1 then
      mz_chk ((0 : Int32) &&& 1 == 0) (mz_ret 0 h)
    else
      if x2 < 0 then
        mz_chk ((0 : Int32) &&& 1 == 0) (mz_ret 0 h)
      else
        mz_op (mz_fR h a0 4 0) fun v3 =>
        mz_op (mz_len h v3 1) fun v4 =>
        if (v4 - x1) < x2 then
          mz_chk ((0 : Int32) &&& 1 == 0) (mz_ret 0 h)
        else
          mz_chk ((1 : Int32) &&& 1 == 1) (mz_ret 1 h)
set_option maxHeartbeats 4000000 in
set_option maxRecDepth 100000 in
theorem pf_X5_hasRange_b0 (r : Int32) (Y : mz_Y p g RX5 cX5_hasRange 3 (some .boolean) "hasRange" (mz_AF h0) s m args meth c) (h : mz_H) (a0 : (Option Nat)) (x1 : Int32) (x2 : Int32) (dc ds : Nat) (hr : fn_X5_hasRange h a0 x1 x2 = some (r, hf, dc, ds)) : mz_Go l g p e s m args below meth c 0 0 DC DS h0 (some (Value.int r)) hf 3 0 [(0, false, va_rf a0), (1, false, .int x1), (2, false, .int x2)] [] h dc ds := by
  unfold fn_X5_hasRange at hr
  intro H locs cells slots ls hH hS hl hc hs
  have X := Y.1
  refine lv_iload_n X.1 X.2.1 dX5_hasRange_0 rfl (mz_at hl 1 rfl) ?_
  refine mz_if_lt X 32 dX5_hasRange_1 (by decide) hr (fun hr => ?_) (fun hr => ?_)
  · refine lv_iconst (v := 0) X.1 X.2.1 dX5_hasRange_32 (by decide) ?_
    exact mz_zret Y dX5_hasRange_33 hH hS hc hs hr
  · refine lv_iload_n X.1 X.2.1 dX5_hasRange_4 rfl (mz_at hl 1 rfl) ?_
    refine mz_aload_n X dX5_hasRange_5 rfl (mz_at hl 0 rfl) ?_
    refine mz_getR X hH fl_RX5_15 dX5_hasRange_6 hr (fun v1 hr => ?_)
    refine mz_alen (t := 1) X hH (by decide) dX5_hasRange_9 hr (fun v2 hr => ?_)
    refine mz_icmp_gt X 32 dX5_hasRange_10 (by decide) hr (fun hr => ?_) (fun hr => ?_)
    · refine lv_iconst (v := 0) X.1 X.2.1 dX5_hasRange_32 (by decide) ?_
      exact mz_zret Y dX5_hasRange_33 hH hS hc hs hr
    · refine lv_iload_n X.1 X.2.1 dX5_hasRange_13 rfl (mz_at hl 2 rfl) ?_
      refine mz_if_lt X 32 dX5_hasRange_14 (by decide) hr (fun hr => ?_) (fun hr => ?_)
      · refine lv_iconst (v := 0) X.1 X.2.1 dX5_hasRange_32 (by decide) ?_
        exact mz_zret Y dX5_hasRange_33 hH hS hc hs hr
      · refine lv_iload_n X.1 X.2.1 dX5_hasRange_17 rfl (mz_at hl 2 rfl) ?_
        refine mz_aload_n X dX5_hasRange_18 rfl (mz_at hl 0 rfl) ?_
        refine mz_getR X hH fl_RX5_15 dX5_hasRange_19 hr (fun v3 hr => ?_)
        refine mz_alen (t := 1) X hH (by decide) dX5_hasRange_22 hr (fun v4 hr => ?_)
        refine lv_iload_n X.1 X.2.1 dX5_hasRange_23 rfl (mz_at hl 1 rfl) ?_
        refine lv_isub X.1 X.2.1 dX5_hasRange_24 ?_
        refine mz_icmp_gt X 32 dX5_hasRange_25 (by decide) hr (fun hr => ?_) (fun hr => ?_)
        · refine lv_iconst (v := 0) X.1 X.2.1 dX5_hasRange_32 (by decide) ?_
          exact mz_zret Y dX5_hasRange_33 hH hS hc hs hr
        · refine lv_iconst (v := 1) X.1 X.2.1 dX5_hasRange_28 (by decide) ?_
          refine lv_goto (tgt := 33) X.1 X.2.1 dX5_hasRange_29 (by decide) ?_
          exact mz_zret Y dX5_hasRange_33 hH hS hc hs hr
set_option maxRecDepth 100000 in
theorem ct_X5_hasRange (l : Launch) (g : mz_G) (h : mz_H) (a0 : (Option Nat)) (x1 : Int32) (x2 : Int32) (r : Int32) (hf : mz_H) (k n : Nat) (hr : fn_X5_hasRange h a0 x1 x2 = some (r, hf, k, n)) : mz_C l g yX5_hasRange cX5_hasRange 3 (some .boolean) 0 0 [va_rf a0, .int x1, .int x2] h (some (Value.int r)) hf k n := by
  refine mz_met (as := [(false, va_rf a0), (false, .int x1), (false, .int x2)]) (plainFor_of_name (by decide)) (mz_c1 (mz_cat_rf _) (mz_c1 rfl (mz_c1 rfl mz_c0))) (Nat.le_of_ble_eq_true rfl) ?_
  intro p e s m args below meth c Y
  exact pf_X5_hasRange_b0 r Y h a0 x1 x2 _ _ hr
end

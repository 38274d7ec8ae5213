/-! X11_says X11_way X11_below X11_scan X11_broken X11_entry X11_comeTo X11_tally X11_offer X11_hold X11_addThing X11_make X11_thingOf X11_of X11_slot X11_slotOf X11_kind -/
section
variable {p : Program} {l : Launch} {e : Env} {s : State} {m : MethodId} {args : Array Value} {below : List Frame} {meth : Method} {c : Code} {g : mz_G} {h0 hf : mz_H} {DC DS : Nat}
theorem dX11_says_0 : decode cX11_says 0 = .ok (.aload_n 0, 1) := by decide +kernel
theorem dX11_says_1 : decode cX11_says 1 = .ok (.getfield 10, 3) := by decide +kernel
theorem dX11_says_4 : decode cX11_says 4 = .ok (.iload_n 1, 1) := by decide +kernel
theorem dX11_says_5 : decode cX11_says 5 = .ok (.invokevirtual 48, 3) := by decide +kernel
theorem dX11_says_8 : decode cX11_says 8 = .ok (.astore_n 3, 1) := by decide +kernel
theorem dX11_says_9 : decode cX11_says 9 = .ok (.aload_n 3, 1) := by decide +kernel
theorem dX11_says_10 : decode cX11_says 10 = .ok (.ifnonnull 5, 3) := by decide +kernel
theorem dX11_says_13 : decode cX11_says 13 = .ok (.iconst (-1), 1) := by decide +kernel
theorem dX11_says_14 : decode cX11_says 14 = .ok (.ireturn, 1) := by decide +kernel
theorem dX11_says_15 : decode cX11_says 15 = .ok (.iload_n 2, 1) := by decide +kernel
theorem dX11_says_16 : decode cX11_says 16 = .ok (.tableswitch 106 0 8 #[52, 57, 62, 67, 72, 77, 86, 99, 104], 52) := by decide +kernel
theorem dX11_says_68 : decode cX11_says 68 = .ok (.aload_n 3, 1) := by decide +kernel
theorem dX11_says_69 : decode cX11_says 69 = .ok (.getfield 72, 3) := by decide +kernel
theorem dX11_says_72 : decode cX11_says 72 = .ok (.ireturn, 1) := by decide +kernel
theorem dX11_says_73 : decode cX11_says 73 = .ok (.aload_n 3, 1) := by decide +kernel
theorem dX11_says_74 : decode cX11_says 74 = .ok (.getfield 124, 3) := by decide +kernel
theorem dX11_says_77 : decode cX11_says 77 = .ok (.ireturn, 1) := by decide +kernel
theorem dX11_says_78 : decode cX11_says 78 = .ok (.aload_n 3, 1) := by decide +kernel
theorem dX11_says_79 : decode cX11_says 79 = .ok (.getfield 83, 3) := by decide +kernel
theorem dX11_says_82 : decode cX11_says 82 = .ok (.ireturn, 1) := by decide +kernel
theorem dX11_says_83 : decode cX11_says 83 = .ok (.aload_n 3, 1) := by decide +kernel
theorem dX11_says_84 : decode cX11_says 84 = .ok (.getfield 93, 3) := by decide +kernel
theorem dX11_says_87 : decode cX11_says 87 = .ok (.ireturn, 1) := by decide +kernel
theorem dX11_says_88 : decode cX11_says 88 = .ok (.aload_n 3, 1) := by decide +kernel
theorem dX11_says_89 : decode cX11_says 89 = .ok (.getfield 112, 3) := by decide +kernel
theorem dX11_says_92 : decode cX11_says 92 = .ok (.ireturn, 1) := by decide +kernel
theorem dX11_says_93 : decode cX11_says 93 = .ok (.aload_n 0, 1) := by decide +kernel
theorem dX11_says_94 : decode cX11_says 94 = .ok (.getfield 10, 3) := by decide +kernel
theorem dX11_says_97 : decode cX11_says 97 = .ok (.iload_n 1, 1) := by decide +kernel
theorem dX11_says_98 : decode cX11_says 98 = .ok (.invokevirtual 127, 3) := by decide +kernel
theorem dX11_says_101 : decode cX11_says 101 = .ok (.ireturn, 1) := by decide +kernel
theorem dX11_says_102 : decode cX11_says 102 = .ok (.aload_n 3, 1) := by decide +kernel
theorem dX11_says_103 : decode cX11_says 103 = .ok (.getfield 130, 3) := by decide +kernel
theorem dX11_says_106 : decode cX11_says 106 = .ok (.ifCond .eq 7, 3) := by decide +kernel
theorem dX11_says_109 : decode cX11_says 109 = .ok (.iconst 1, 1) := by decide +kernel
theorem dX11_says_110 : decode cX11_says 110 = .ok (.goto 4, 3) := by decide +kernel
theorem dX11_says_113 : decode cX11_says 113 = .ok (.iconst 0, 1) := by decide +kernel
theorem dX11_says_114 : decode cX11_says 114 = .ok (.ireturn, 1) := by decide +kernel
theorem dX11_says_115 : decode cX11_says 115 = .ok (.aload_n 3, 1) := by decide +kernel
theorem dX11_says_116 : decode cX11_says 116 = .ok (.invokevirtual 134, 3) := by decide +kernel
theorem dX11_says_119 : decode cX11_says 119 = .ok (.ireturn, 1) := by decide +kernel
theorem dX11_says_120 : decode cX11_says 120 = .ok (.iconst 0, 1) := by decide +kernel
theorem dX11_says_121 : decode cX11_says 121 = .ok (.ireturn, 1) := by decide +kernel
theorem dX11_says_122 : decode cX11_says 122 = .ok (.bipush (-2), 2) := by decide +kernel
theorem dX11_says_124 : decode cX11_says 124 = .ok (.ireturn, 1) := by decide +kernel
def fn_X11_says (h : mz_H) (a0 : (Option Nat)) (x1 : Int32) (x2 : Int32) : mz_Res Int32 :=
  mz_op (mz_fR h a0 10 0) fun v1 =>
  mz_chk (mz_is h v1 9) <| mz_call (fn_X10_typeOf h v1 x1) fun v2 h =>
  if v2 = none then
    mz_ret (-1) h
  else
    if x2 = 0 then
      mz_op (mz_fI h v2 8 0) fun v3 =>
      mz_ret v3 h
    else
    if x2 = 1 then
      mz_op (mz_fI h v2 8 1) fun v4 =>
      mz_ret v4 h
    else
    if x2 = 2 then
      mz_op (mz_fI h v2 8 4) fun v5 =>
      mz_ret v5 h
    else
    if x2 = 3 then
      mz_op (mz_fI h v2 8 6) fun v6 =>
      mz_ret v6 h
    else
    if x2 = 4 then
      mz_op (mz_fI h v2 8 8) fun v7 =>
      mz_ret v7 h
    else
    if x2 = 5 then
      mz_op (mz_fR h a0 10 0) fun v8 =>
      mz_chk (mz_is h v8 9) <| mz_call (fn_X10_wayLengthOf h v8 x1) fun v9 h =>
      mz_ret v9 h
    else
    if x2 = 6 then
      mz_op (mz_fI h v2 8 10) fun v10 =>
      if v10 = 0 then
        mz_ret 0 h
      else
        mz_ret 1 h
    else
    if x2 = 7 then
      mz_chk (mz_is h v2 8) <| mz_call (fn_X9_cost h v2) fun v11 h =>
      mz_ret v11 h
    else
    if x2 = 8 then
      mz_ret 0 h
    else
    mz_ret (-2) h
set_option maxHeartbeats 4000000 in
set_option maxRecDepth 100000 in
theorem pf_X11_says_b0 (r : Int32) (Y : mz_Y p g RX11 cX11_says 4 (some .int) "says" (mz_AF h0) s m args meth c) (h : mz_H) (a0 : (Option Nat)) (x1 : Int32) (x2 : Int32) (dc ds : Nat) (hr : fn_X11_says h a0 x1 x2 = some (r, hf, dc, ds)) : mz_Go l g p e s m args below meth c 66 2568 DC DS h0 (some (Value.int r)) hf 4 0 [(0, false, va_rf a0), (1, false, .int x1), (2, false, .int x2)] [] h dc ds := by
  unfold fn_X11_says at hr
  intro H locs cells slots ls hH hS hl hc hs
  have X := Y.1
  refine mz_aload_n X dX11_says_0 rfl (mz_at hl 0 rfl) ?_
  refine mz_getR X hH fl_RX11_10 dX11_says_1 hr (fun v1 hr => ?_)
  refine lv_iload_n X.1 X.2.1 dX11_says_4 rfl (mz_at hl 1 rfl) ?_
  refine mz_kV va_rf X hH hS hl.1.1 [.int x1] [] hr (ct_X10_typeOf l g h v1 x1) mb_RX11_48 rfl im_X10_typeOf rfl (Nat.le_of_ble_eq_true rfl) ⟨Nat.le_of_ble_eq_true rfl, Nat.le_of_ble_eq_true rfl⟩ hc hs dX11_says_5 rfl (fun v2 h H locs cells slots dc ds hr hH hS hc hs => ?_)
  refine mz_astore_n X [(3, false, va_rf v2), (0, false, va_rf a0), (1, false, .int x1), (2, false, .int x2)] dX11_says_8 rfl hl (by decide) rfl (fun ls hl => ?_)
  refine mz_aload_n X dX11_says_9 rfl (mz_at hl 0 rfl) ?_
  refine mz_ifnonnull X 15 dX11_says_10 (by decide) hr (fun hr => ?_) (fun hr => ?_)
  · refine lv_iload_n X.1 X.2.1 dX11_says_15 rfl (mz_at hl 3 rfl) ?_
    by_cases q0 : x2 = 0
    · rw [if_pos q0] at hr
      refine mz_tin X dX11_says_16 q0 68 (by decide) (by decide) rfl (by decide) ?_
      refine mz_aload_n X dX11_says_68 rfl (mz_at hl 0 rfl) ?_
      refine mz_getI X hH fl_RX11_72 dX11_says_69 hr (fun v3 hr => ?_)
      exact mz_iret Y dX11_says_72 hH hS hc hs hr
    rw [if_neg q0] at hr
    by_cases q1 : x2 = 1
    · rw [if_pos q1] at hr
      refine mz_tin X dX11_says_16 q1 73 (by decide) (by decide) rfl (by decide) ?_
      refine mz_aload_n X dX11_says_73 rfl (mz_at hl 0 rfl) ?_
      refine mz_getI X hH fl_RX11_124 dX11_says_74 hr (fun v4 hr => ?_)
      exact mz_iret Y dX11_says_77 hH hS hc hs hr
    rw [if_neg q1] at hr
    by_cases q2 : x2 = 2
    · rw [if_pos q2] at hr
      refine mz_tin X dX11_says_16 q2 78 (by decide) (by decide) rfl (by decide) ?_
      refine mz_aload_n X dX11_says_78 rfl (mz_at hl 0 rfl) ?_
      refine mz_getI X hH fl_RX11_83 dX11_says_79 hr (fun v5 hr => ?_)
      exact mz_iret Y dX11_says_82 hH hS hc hs hr
    rw [if_neg q2] at hr
    by_cases q3 : x2 = 3
    · rw [if_pos q3] at hr
      refine mz_tin X dX11_says_16 q3 83 (by decide) (by decide) rfl (by decide) ?_
      refine mz_aload_n X dX11_says_83 rfl (mz_at hl 0 rfl) ?_
      refine mz_getI X hH fl_RX11_93 dX11_says_84 hr (fun v6 hr => ?_)
      exact mz_iret Y dX11_says_87 hH hS hc hs hr
    rw [if_neg q3] at hr
    by_cases q4 : x2 = 4
    · rw [if_pos q4] at hr
      refine mz_tin X dX11_says_16 q4 88 (by decide) (by decide) rfl (by decide) ?_
      refine mz_aload_n X dX11_says_88 rfl (mz_at hl 0 rfl) ?_
      refine mz_getI X hH fl_RX11_112 dX11_says_89 hr (fun v7 hr => ?_)
      exact mz_iret Y dX11_says_92 hH hS hc hs hr
    rw [if_neg q4] at hr
    by_cases q5 : x2 = 5
    · rw [if_pos q5] at hr
      refine mz_tin X dX11_says_16 q5 93 (by decide) (by decide) rfl (by decide) ?_
      refine mz_aload_n X dX11_says_93 rfl (mz_at hl 1 rfl) ?_
      refine mz_getR X hH fl_RX11_10 dX11_says_94 hr (fun v8 hr => ?_)
      refine lv_iload_n X.1 X.2.1 dX11_says_97 rfl (mz_at hl 2 rfl) ?_
      refine mz_kV Value.int X hH hS hl.1.1 [.int x1] [] hr (ct_X10_wayLengthOf l g h v8 x1) mb_RX11_127 rfl im_X10_wayLengthOf rfl (Nat.le_of_ble_eq_true rfl) ⟨Nat.le_of_ble_eq_true rfl, Nat.le_of_ble_eq_true rfl⟩ hc hs dX11_says_98 rfl (fun v9 h H locs cells slots dc ds hr hH hS hc hs => ?_)
      exact mz_iret Y dX11_says_101 hH hS hc hs hr
    rw [if_neg q5] at hr
    by_cases q6 : x2 = 6
    · rw [if_pos q6] at hr
      refine mz_tin X dX11_says_16 q6 102 (by decide) (by decide) rfl (by decide) ?_
      refine mz_aload_n X dX11_says_102 rfl (mz_at hl 0 rfl) ?_
      refine mz_getI X hH fl_RX11_130 dX11_says_103 hr (fun v10 hr => ?_)
      refine mz_if_eq X 113 dX11_says_106 (by decide) hr (fun hr => ?_) (fun hr => ?_)
      · refine lv_iconst (v := 0) X.1 X.2.1 dX11_says_113 (by decide) ?_
        exact mz_iret Y dX11_says_114 hH hS hc hs hr
      · refine lv_iconst (v := 1) X.1 X.2.1 dX11_says_109 (by decide) ?_
        refine lv_goto (tgt := 114) X.1 X.2.1 dX11_says_110 (by decide) ?_
        exact mz_iret Y dX11_says_114 hH hS hc hs hr
    rw [if_neg q6] at hr
    by_cases q7 : x2 = 7
    · rw [if_pos q7] at hr
      refine mz_tin X dX11_says_16 q7 115 (by decide) (by decide) rfl (by decide) ?_
      refine mz_aload_n X dX11_says_115 rfl (mz_at hl 0 rfl) ?_
      refine mz_kV Value.int X hH hS hl.1.1 [] [] hr (ct_X9_cost l g h v2) mb_RX11_134 rfl im_X9_cost rfl (Nat.le_of_ble_eq_true rfl) ⟨Nat.le_of_ble_eq_true rfl, Nat.le_of_ble_eq_true rfl⟩ hc hs dX11_says_116 rfl (fun v11 h H locs cells slots dc ds hr hH hS hc hs => ?_)
      exact mz_iret Y dX11_says_119 hH hS hc hs hr
    rw [if_neg q7] at hr
    by_cases q8 : x2 = 8
    · rw [if_pos q8] at hr
      refine mz_tin X dX11_says_16 q8 120 (by decide) (by decide) rfl (by decide) ?_
      refine lv_iconst (v := 0) X.1 X.2.1 dX11_says_120 (by decide) ?_
      exact mz_iret Y dX11_says_121 hH hS hc hs hr
    rw [if_neg q8] at hr
    have kd : W p l e ({ frames := 66, cells := DC, slots := DS, locals := 2568 }) s m args below meth c H locs cells slots (MQ below (mz_Q g h0 (some (Value.int r)) hf) args s DC DS (mz_AF h0)) (F0 m 122 ls []) := by
      refine lv_bipush (v := (-2)) X.1 X.2.1 dX11_says_122 (by decide) ?_
      exact mz_iret Y dX11_says_124 hH hS hc hs hr
    have t0 : ¬ (x2 : Int32).toInt = 0 := fun z => q0 (mz_ti 0 (by decide) z)
    have t1 : ¬ (x2 : Int32).toInt = 1 := fun z => q1 (mz_ti 1 (by decide) z)
    have t2 : ¬ (x2 : Int32).toInt = 2 := fun z => q2 (mz_ti 2 (by decide) z)
    have t3 : ¬ (x2 : Int32).toInt = 3 := fun z => q3 (mz_ti 3 (by decide) z)
    have t4 : ¬ (x2 : Int32).toInt = 4 := fun z => q4 (mz_ti 4 (by decide) z)
    have t5 : ¬ (x2 : Int32).toInt = 5 := fun z => q5 (mz_ti 5 (by decide) z)
    have t6 : ¬ (x2 : Int32).toInt = 6 := fun z => q6 (mz_ti 6 (by decide) z)
    have t7 : ¬ (x2 : Int32).toInt = 7 := fun z => q7 (mz_ti 7 (by decide) z)
    have t8 : ¬ (x2 : Int32).toInt = 8 := fun z => q8 (mz_ti 8 (by decide) z)
    exact mz_tout X dX11_says_16 122 (by omega) (by decide) kd
  · refine lv_iconst (v := (-1)) X.1 X.2.1 dX11_says_13 (by decide) ?_
    exact mz_iret Y dX11_says_14 hH hS hc hs hr
set_option maxRecDepth 100000 in
theorem ct_X11_says (l : Launch) (g : mz_G) (h : mz_H) (a0 : (Option Nat)) (x1 : Int32) (x2 : Int32) (r : Int32) (hf : mz_H) (k n : Nat) (hr : fn_X11_says h a0 x1 x2 = some (r, hf, k, n)) : mz_C l g yX11_says cX11_says 4 (some .int) 66 2568 [va_rf a0, .int x1, .int x2] h (some (Value.int r)) hf k n := by
  refine mz_met (as := [(false, va_rf a0), (false, .int x1), (false, .int x2)]) (plainFor_of_name (by decide)) (mz_c1 (mz_cat_rf _) (mz_c1 rfl (mz_c1 rfl mz_c0))) (Nat.le_of_ble_eq_true rfl) ?_
  intro p e s m args below meth c Y
  exact pf_X11_says_b0 r Y h a0 x1 x2 _ _ hr
theorem dX11_way_0 : decode cX11_way 0 = .ok (.aload_n 0, 1) := by decide +kernel
theorem dX11_way_1 : decode cX11_way 1 = .ok (.getfield 10, 3) := by decide +kernel
theorem dX11_way_4 : decode cX11_way 4 = .ok (.iload_n 1, 1) := by decide +kernel
theorem dX11_way_5 : decode cX11_way 5 = .ok (.invokevirtual 48, 3) := by decide +kernel
theorem dX11_way_8 : decode cX11_way 8 = .ok (.ifnonnull 5, 3) := by decide +kernel
theorem dX11_way_11 : decode cX11_way 11 = .ok (.iconst (-1), 1) := by decide +kernel
theorem dX11_way_12 : decode cX11_way 12 = .ok (.ireturn, 1) := by decide +kernel
theorem dX11_way_13 : decode cX11_way 13 = .ok (.aload_n 0, 1) := by decide +kernel
theorem dX11_way_14 : decode cX11_way 14 = .ok (.getfield 10, 3) := by decide +kernel
theorem dX11_way_17 : decode cX11_way 17 = .ok (.iload_n 1, 1) := by decide +kernel
theorem dX11_way_18 : decode cX11_way 18 = .ok (.invokevirtual 127, 3) := by decide +kernel
theorem dX11_way_21 : decode cX11_way 21 = .ok (.istore_n 3, 1) := by decide +kernel
theorem dX11_way_22 : decode cX11_way 22 = .ok (.iload_n 2, 1) := by decide +kernel
theorem dX11_way_23 : decode cX11_way 23 = .ok (.ifCond .lt 20, 3) := by decide +kernel
theorem dX11_way_26 : decode cX11_way 26 = .ok (.iload_n 2, 1) := by decide +kernel
theorem dX11_way_27 : decode cX11_way 27 = .ok (.iload_n 3, 1) := by decide +kernel
theorem dX11_way_28 : decode cX11_way 28 = .ok (.if_icmp .ge 15, 3) := by decide +kernel
theorem dX11_way_31 : decode cX11_way 31 = .ok (.aload_n 0, 1) := by decide +kernel
theorem dX11_way_32 : decode cX11_way 32 = .ok (.getfield 10, 3) := by decide +kernel
theorem dX11_way_35 : decode cX11_way 35 = .ok (.getfield 138, 3) := by decide +kernel
theorem dX11_way_38 : decode cX11_way 38 = .ok (.iload_n 2, 1) := by decide +kernel
theorem dX11_way_39 : decode cX11_way 39 = .ok (.iaload, 1) := by decide +kernel
theorem dX11_way_40 : decode cX11_way 40 = .ok (.goto 5, 3) := by decide +kernel
theorem dX11_way_43 : decode cX11_way 43 = .ok (.bipush (-9), 2) := by decide +kernel
theorem dX11_way_45 : decode cX11_way 45 = .ok (.ireturn, 1) := by decide +kernel
def fn_X11_way (h : mz_H) (a0 : (Option Nat)) (x1 : Int32) (x2 : Int32) : mz_Res Int32 :=
  mz_op (mz_fR h a0 10 0) fun v1 =>
  mz_chk (mz_is h v1 9) <| mz_call (fn_X10_typeOf h v1 x1) fun v2 h =>
  if v2 = none then
    mz_ret (-1) h
  else
    mz_op (mz_fR h a0 10 0) fun v3 =>
    mz_chk (mz_is h v3 9) <| mz_call (fn_X10_wayLengthOf h v3 x1) fun v4 h =>
    if x2 < 0 then
      mz_ret (-9) h
    else
      if v4 ≤ x2 then
        mz_ret (-9) h
      else
        mz_op (mz_fR h a0 10 0) fun v5 =>
        mz_op (mz_fR h v5 9 2) fun v6 =>
        mz_op (mz_aI h v6 0 x2) fun v7 =>
        mz_ret v7 h
set_option maxHeartbeats 4000000 in
set_option maxRecDepth 100000 in
theorem pf_X11_way_b0 (r : Int32) (Y : mz_Y p g RX11 cX11_way 4 (some .int) "way" (mz_AF h0) s m args meth c) (h : mz_H) (a0 : (Option Nat)) (x1 : Int32) (x2 : Int32) (dc ds : Nat) (hr : fn_X11_way h a0 x1 x2 = some (r, hf, dc, ds)) : mz_Go l g p e s m args below meth c 66 2568 DC DS h0 (some (Value.int r)) hf 4 0 [(0, false, va_rf a0), (1, false, .int x1), (2, false, .int x2)] [] h dc ds := by
  unfold fn_X11_way at hr
  intro H locs cells slots ls hH hS hl hc hs
  have X := Y.1
  refine mz_aload_n X dX11_way_0 rfl (mz_at hl 0 rfl) ?_
  refine mz_getR X hH fl_RX11_10 dX11_way_1 hr (fun v1 hr => ?_)
  refine lv_iload_n X.1 X.2.1 dX11_way_4 rfl (mz_at hl 1 rfl) ?_
  refine mz_kV va_rf X hH hS hl.1.1 [.int x1] [] hr (ct_X10_typeOf l g h v1 x1) mb_RX11_48 rfl im_X10_typeOf rfl (Nat.le_of_ble_eq_true rfl) ⟨Nat.le_of_ble_eq_true rfl, Nat.le_of_ble_eq_true rfl⟩ hc hs dX11_way_5 rfl (fun v2 h H locs cells slots dc ds hr hH hS hc hs => ?_)
  refine mz_ifnonnull X 13 dX11_way_8 (by decide) hr (fun hr => ?_) (fun hr => ?_)
  · refine mz_aload_n X dX11_way_13 rfl (mz_at hl 0 rfl) ?_
    refine mz_getR X hH fl_RX11_10 dX11_way_14 hr (fun v3 hr => ?_)
    refine lv_iload_n X.1 X.2.1 dX11_way_17 rfl (mz_at hl 1 rfl) ?_
    refine mz_kV Value.int X hH hS hl.1.1 [.int x1] [] hr (ct_X10_wayLengthOf l g h v3 x1) mb_RX11_127 rfl im_X10_wayLengthOf rfl (Nat.le_of_ble_eq_true rfl) ⟨Nat.le_of_ble_eq_true rfl, Nat.le_of_ble_eq_true rfl⟩ hc hs dX11_way_18 rfl (fun v4 h H locs cells slots dc ds hr hH hS hc hs => ?_)
    refine mz_istore_n X [(3, false, .int v4), (0, false, va_rf a0), (1, false, .int x1), (2, false, .int x2)] dX11_way_21 rfl hl (by decide) rfl (fun ls hl => ?_)
    refine lv_iload_n X.1 X.2.1 dX11_way_22 rfl (mz_at hl 3 rfl) ?_
    refine mz_if_lt X 43 dX11_way_23 (by decide) hr (fun hr => ?_) (fun hr => ?_)
    · refine lv_bipush (v := (-9)) X.1 X.2.1 dX11_way_43 (by decide) ?_
      exact mz_iret Y dX11_way_45 hH hS hc hs hr
    · refine lv_iload_n X.1 X.2.1 dX11_way_26 rfl (mz_at hl 3 rfl) ?_
      refine lv_iload_n X.1 X.2.1 dX11_way_27 rfl (mz_at hl 0 rfl) ?_
      refine mz_icmp_ge X 43 dX11_way_28 (by decide) hr (fun hr => ?_) (fun hr => ?_)
      · refine lv_bipush (v := (-9)) X.1 X.2.1 dX11_way_43 (by decide) ?_
        exact mz_iret Y dX11_way_45 hH hS hc hs hr
      · refine mz_aload_n X dX11_way_31 rfl (mz_at hl 1 rfl) ?_
        refine mz_getR X hH fl_RX11_10 dX11_way_32 hr (fun v5 hr => ?_)
        refine mz_getR X hH fl_RX11_138 dX11_way_35 hr (fun v6 hr => ?_)
        refine lv_iload_n X.1 X.2.1 dX11_way_38 rfl (mz_at hl 3 rfl) ?_
        refine mz_iald X hH dX11_way_39 hr (fun v7 hr => ?_)
        refine lv_goto (tgt := 45) X.1 X.2.1 dX11_way_40 (by decide) ?_
        exact mz_iret Y dX11_way_45 hH hS hc hs hr
  · refine lv_iconst (v := (-1)) X.1 X.2.1 dX11_way_11 (by decide) ?_
    exact mz_iret Y dX11_way_12 hH hS hc hs hr
set_option maxRecDepth 100000 in
theorem ct_X11_way (l : Launch) (g : mz_G) (h : mz_H) (a0 : (Option Nat)) (x1 : Int32) (x2 : Int32) (r : Int32) (hf : mz_H) (k n : Nat) (hr : fn_X11_way h a0 x1 x2 = some (r, hf, k, n)) : mz_C l g yX11_way cX11_way 4 (some .int) 66 2568 [va_rf a0, .int x1, .int x2] h (some (Value.int r)) hf k n := by
  refine mz_met (as := [(false, va_rf a0), (false, .int x1), (false, .int x2)]) (plainFor_of_name (by decide)) (mz_c1 (mz_cat_rf _) (mz_c1 rfl (mz_c1 rfl mz_c0))) (Nat.le_of_ble_eq_true rfl) ?_
  intro p e s m args below meth c Y
  exact pf_X11_way_b0 r Y h a0 x1 x2 _ _ hr
theorem dX11_below_0 : decode cX11_below 0 = .ok (.aload_n 0, 1) := by decide +kernel
theorem dX11_below_1 : decode cX11_below 1 = .ok (.getfield 10, 3) := by decide +kernel
theorem dX11_below_4 : decode cX11_below 4 = .ok (.iload_n 1, 1) := by decide +kernel
theorem dX11_below_5 : decode cX11_below 5 = .ok (.invokevirtual 48, 3) := by decide +kernel
theorem dX11_below_8 : decode cX11_below 8 = .ok (.ifnull 14, 3) := by decide +kernel
theorem dX11_below_11 : decode cX11_below 11 = .ok (.aload_n 0, 1) := by decide +kernel
theorem dX11_below_12 : decode cX11_below 12 = .ok (.getfield 10, 3) := by decide +kernel
theorem dX11_below_15 : decode cX11_below 15 = .ok (.iload_n 2, 1) := by decide +kernel
theorem dX11_below_16 : decode cX11_below 16 = .ok (.invokevirtual 48, 3) := by decide +kernel
theorem dX11_below_19 : decode cX11_below 19 = .ok (.ifnonnull 5, 3) := by decide +kernel
theorem dX11_below_22 : decode cX11_below 22 = .ok (.iconst (-1), 1) := by decide +kernel
theorem dX11_below_23 : decode cX11_below 23 = .ok (.ireturn, 1) := by decide +kernel
theorem dX11_below_24 : decode cX11_below 24 = .ok (.aload_n 0, 1) := by decide +kernel
theorem dX11_below_25 : decode cX11_below 25 = .ok (.getfield 10, 3) := by decide +kernel
theorem dX11_below_28 : decode cX11_below 28 = .ok (.iload_n 1, 1) := by decide +kernel
theorem dX11_below_29 : decode cX11_below 29 = .ok (.iload_n 2, 1) := by decide +kernel
theorem dX11_below_30 : decode cX11_below 30 = .ok (.invokevirtual 75, 3) := by decide +kernel
theorem dX11_below_33 : decode cX11_below 33 = .ok (.ifCond .eq 7, 3) := by decide +kernel
theorem dX11_below_36 : decode cX11_below 36 = .ok (.iconst 1, 1) := by decide +kernel
theorem dX11_below_37 : decode cX11_below 37 = .ok (.goto 4, 3) := by decide +kernel
theorem dX11_below_40 : decode cX11_below 40 = .ok (.iconst 0, 1) := by decide +kernel
theorem dX11_below_41 : decode cX11_below 41 = .ok (.ireturn, 1) := by decide +kernel
def fn_X11_below (h : mz_H) (a0 : (Option Nat)) (x1 : Int32) (x2 : Int32) : mz_Res Int32 :=
  mz_op (mz_fR h a0 10 0) fun v1 =>
  mz_chk (mz_is h v1 9) <| mz_call (fn_X10_typeOf h v1 x1) fun v2 h =>
  if v2 = none then
    mz_ret (-1) h
  else
    mz_op (mz_fR h a0 10 0) fun v3 =>
    mz_chk (mz_is h v3 9) <| mz_call (fn_X10_typeOf h v3 x2) fun v4 h =>
    if v4 = none then
      mz_ret (-1) h
    else
      mz_op (mz_fR h a0 10 0) fun v5 =>
      mz_chk (mz_is h v5 9) <| mz_call (fn_X10_isBelow h v5 x1 x2) fun v6 h =>
      if v6 = 0 then
        mz_ret 0 h
      else
        mz_ret 1 h
set_option maxHeartbeats 4000000 in
set_option maxRecDepth 100000 in
theorem pf_X11_below_b0 (r : Int32) (Y : mz_Y p g RX11 cX11_below 3 (some .int) "below" (mz_AF h0) s m args meth c) (h : mz_H) (a0 : (Option Nat)) (x1 : Int32) (x2 : Int32) (dc ds : Nat) (hr : fn_X11_below h a0 x1 x2 = some (r, hf, dc, ds)) : mz_Go l g p e s m args below meth c 67 2590 DC DS h0 (some (Value.int r)) hf 3 0 [(0, false, va_rf a0), (1, false, .int x1), (2, false, .int x2)] [] h dc ds := by
  unfold fn_X11_below at hr
  intro H locs cells slots ls hH hS hl hc hs
  have X := Y.1
  refine mz_aload_n X dX11_below_0 rfl (mz_at hl 0 rfl) ?_
  refine mz_getR X hH fl_RX11_10 dX11_below_1 hr (fun v1 hr => ?_)
  refine lv_iload_n X.1 X.2.1 dX11_below_4 rfl (mz_at hl 1 rfl) ?_
  refine mz_kV va_rf X hH hS hl.1.1 [.int x1] [] hr (ct_X10_typeOf l g h v1 x1) mb_RX11_48 rfl im_X10_typeOf rfl (Nat.le_of_ble_eq_true rfl) ⟨Nat.le_of_ble_eq_true rfl, Nat.le_of_ble_eq_true rfl⟩ hc hs dX11_below_5 rfl (fun v2 h H locs cells slots dc ds hr hH hS hc hs => ?_)
  refine mz_ifnull X 22 dX11_below_8 (by decide) hr (fun hr => ?_) (fun hr => ?_)
  · refine lv_iconst (v := (-1)) X.1 X.2.1 dX11_below_22 (by decide) ?_
    exact mz_iret Y dX11_below_23 hH hS hc hs hr
  · refine mz_aload_n X dX11_below_11 rfl (mz_at hl 0 rfl) ?_
    refine mz_getR X hH fl_RX11_10 dX11_below_12 hr (fun v3 hr => ?_)
    refine lv_iload_n X.1 X.2.1 dX11_below_15 rfl (mz_at hl 2 rfl) ?_
    refine mz_kV va_rf X hH hS hl.1.1 [.int x2] [] hr (ct_X10_typeOf l g h v3 x2) mb_RX11_48 rfl im_X10_typeOf rfl (Nat.le_of_ble_eq_true rfl) ⟨Nat.le_of_ble_eq_true rfl, Nat.le_of_ble_eq_true rfl⟩ hc hs dX11_below_16 rfl (fun v4 h H locs cells slots dc ds hr hH hS hc hs => ?_)
    refine mz_ifnonnull X 24 dX11_below_19 (by decide) hr (fun hr => ?_) (fun hr => ?_)
    · refine mz_aload_n X dX11_below_24 rfl (mz_at hl 0 rfl) ?_
      refine mz_getR X hH fl_RX11_10 dX11_below_25 hr (fun v5 hr => ?_)
      refine lv_iload_n X.1 X.2.1 dX11_below_28 rfl (mz_at hl 1 rfl) ?_
      refine lv_iload_n X.1 X.2.1 dX11_below_29 rfl (mz_at hl 2 rfl) ?_
      refine mz_kV Value.int X hH hS hl.1.1 [.int x1, .int x2] [] hr (ct_X10_isBelow l g h v5 x1 x2) mb_RX11_75 rfl im_X10_isBelow rfl (Nat.le_of_ble_eq_true rfl) ⟨Nat.le_of_ble_eq_true rfl, Nat.le_of_ble_eq_true rfl⟩ hc hs dX11_below_30 rfl (fun v6 h H locs cells slots dc ds hr hH hS hc hs => ?_)
      refine mz_if_eq X 40 dX11_below_33 (by decide) hr (fun hr => ?_) (fun hr => ?_)
      · refine lv_iconst (v := 0) X.1 X.2.1 dX11_below_40 (by decide) ?_
        exact mz_iret Y dX11_below_41 hH hS hc hs hr
      · refine lv_iconst (v := 1) X.1 X.2.1 dX11_below_36 (by decide) ?_
        refine lv_goto (tgt := 41) X.1 X.2.1 dX11_below_37 (by decide) ?_
        exact mz_iret Y dX11_below_41 hH hS hc hs hr
    · refine lv_iconst (v := (-1)) X.1 X.2.1 dX11_below_22 (by decide) ?_
      exact mz_iret Y dX11_below_23 hH hS hc hs hr
set_option maxRecDepth 100000 in
theorem ct_X11_below (l : Launch) (g : mz_G) (h : mz_H) (a0 : (Option Nat)) (x1 : Int32) (x2 : Int32) (r : Int32) (hf : mz_H) (k n : Nat) (hr : fn_X11_below h a0 x1 x2 = some (r, hf, k, n)) : mz_C l g yX11_below cX11_below 3 (some .int) 67 2590 [va_rf a0, .int x1, .int x2] h (some (Value.int r)) hf k n := by
  refine mz_met (as := [(false, va_rf a0), (false, .int x1), (false, .int x2)]) (plainFor_of_name (by decide)) (mz_c1 (mz_cat_rf _) (mz_c1 rfl (mz_c1 rfl mz_c0))) (Nat.le_of_ble_eq_true rfl) ?_
  intro p e s m args below meth c Y
  exact pf_X11_below_b0 r Y h a0 x1 x2 _ _ hr
theorem dX11_scan_0 : decode cX11_scan 0 = .ok (.aload_n 0, 1) := by decide +kernel
theorem dX11_scan_1 : decode cX11_scan 1 = .ok (.getfield 10, 3) := by decide +kernel
theorem dX11_scan_4 : decode cX11_scan 4 = .ok (.iload_n 1, 1) := by decide +kernel
theorem dX11_scan_5 : decode cX11_scan 5 = .ok (.invokevirtual 48, 3) := by decide +kernel
theorem dX11_scan_8 : decode cX11_scan 8 = .ok (.ifnonnull 5, 3) := by decide +kernel
theorem dX11_scan_11 : decode cX11_scan 11 = .ok (.iconst (-1), 1) := by decide +kernel
theorem dX11_scan_12 : decode cX11_scan 12 = .ok (.ireturn, 1) := by decide +kernel
theorem dX11_scan_13 : decode cX11_scan 13 = .ok (.aload_n 0, 1) := by decide +kernel
theorem dX11_scan_14 : decode cX11_scan 14 = .ok (.getfield 19, 3) := by decide +kernel
theorem dX11_scan_17 : decode cX11_scan 17 = .ok (.aload_n 0, 1) := by decide +kernel
theorem dX11_scan_18 : decode cX11_scan 18 = .ok (.getfield 10, 3) := by decide +kernel
theorem dX11_scan_21 : decode cX11_scan 21 = .ok (.iload_n 1, 1) := by decide +kernel
theorem dX11_scan_22 : decode cX11_scan 22 = .ok (.invokevirtual 141, 3) := by decide +kernel
theorem dX11_scan_25 : decode cX11_scan 25 = .ok (.aload_n 0, 1) := by decide +kernel
theorem dX11_scan_26 : decode cX11_scan 26 = .ok (.getfield 19, 3) := by decide +kernel
theorem dX11_scan_29 : decode cX11_scan 29 = .ok (.getfield 145, 3) := by decide +kernel
theorem dX11_scan_32 : decode cX11_scan 32 = .ok (.ifCond .ne 13, 3) := by decide +kernel
theorem dX11_scan_35 : decode cX11_scan 35 = .ok (.aload_n 0, 1) := by decide +kernel
theorem dX11_scan_36 : decode cX11_scan 36 = .ok (.getfield 19, 3) := by decide +kernel
theorem dX11_scan_39 : decode cX11_scan 39 = .ok (.getfield 148, 3) := by decide +kernel
theorem dX11_scan_42 : decode cX11_scan 42 = .ok (.goto 13, 3) := by decide +kernel
theorem dX11_scan_45 : decode cX11_scan 45 = .ok (.bipush (-20), 2) := by decide +kernel
theorem dX11_scan_47 : decode cX11_scan 47 = .ok (.aload_n 0, 1) := by decide +kernel
theorem dX11_scan_48 : decode cX11_scan 48 = .ok (.getfield 19, 3) := by decide +kernel
theorem dX11_scan_51 : decode cX11_scan 51 = .ok (.getfield 145, 3) := by decide +kernel
theorem dX11_scan_54 : decode cX11_scan 54 = .ok (.isub, 1) := by decide +kernel
theorem dX11_scan_55 : decode cX11_scan 55 = .ok (.ireturn, 1) := by decide +kernel
def fn_X11_scan (h : mz_H) (a0 : (Option Nat)) (x1 : Int32) : mz_Res Int32 :=
  mz_op (mz_fR h a0 10 0) fun v1 =>
  mz_chk (mz_is h v1 9) <| mz_call (fn_X10_typeOf h v1 x1) fun v2 h =>
  if v2 = none then
    mz_ret (-1) h
  else
    mz_op (mz_fR h a0 10 1) fun v3 =>
    mz_op (mz_fR h a0 10 0) fun v4 =>
    mz_chk (mz_is h v3 6) <| mz_call (fn_X7_read h v3 v4 x1) fun _ h =>
    mz_op (mz_fR h a0 10 1) fun v5 =>
    mz_op (mz_fI h v5 6 3) fun v6 =>
    if v6 = 0 then
      mz_op (mz_fR h a0 10 1) fun v9 =>
      mz_op (mz_fI h v9 6 2) fun v10 =>
      mz_ret v10 h
    else
      mz_op (mz_fR h a0 10 1) fun v7 =>
      mz_op (mz_fI h v7 6 3) fun v8 =>
      mz_ret ((-20) - v8) h
set_option maxHeartbeats 4000000 in
set_option maxRecDepth 100000 in
theorem pf_X11_scan_b0 (r : Int32) (Y : mz_Y p g RX11 cX11_scan 2 (some .int) "scan" (mz_AF h0) s m args meth c) (h : mz_H) (a0 : (Option Nat)) (x1 : Int32) (dc ds : Nat) (hr : fn_X11_scan h a0 x1 = some (r, hf, dc, ds)) : mz_Go l g p e s m args below meth c 67 2592 DC DS h0 (some (Value.int r)) hf 2 0 [(0, false, va_rf a0), (1, false, .int x1)] [] h dc ds := by
  unfold fn_X11_scan at hr
  intro H locs cells slots ls hH hS hl hc hs
  have X := Y.1
  refine mz_aload_n X dX11_scan_0 rfl (mz_at hl 0 rfl) ?_
  refine mz_getR X hH fl_RX11_10 dX11_scan_1 hr (fun v1 hr => ?_)
  refine lv_iload_n X.1 X.2.1 dX11_scan_4 rfl (mz_at hl 1 rfl) ?_
  refine mz_kV va_rf X hH hS hl.1.1 [.int x1] [] hr (ct_X10_typeOf l g h v1 x1) mb_RX11_48 rfl im_X10_typeOf rfl (Nat.le_of_ble_eq_true rfl) ⟨Nat.le_of_ble_eq_true rfl, Nat.le_of_ble_eq_true rfl⟩ hc hs dX11_scan_5 rfl (fun v2 h H locs cells slots dc ds hr hH hS hc hs => ?_)
  refine mz_ifnonnull X 13 dX11_scan_8 (by decide) hr (fun hr => ?_) (fun hr => ?_)
  · refine mz_aload_n X dX11_scan_13 rfl (mz_at hl 0 rfl) ?_
    refine mz_getR X hH fl_RX11_19 dX11_scan_14 hr (fun v3 hr => ?_)
    refine mz_aload_n X dX11_scan_17 rfl (mz_at hl 0 rfl) ?_
    refine mz_getR X hH fl_RX11_10 dX11_scan_18 hr (fun v4 hr => ?_)
    refine lv_iload_n X.1 X.2.1 dX11_scan_21 rfl (mz_at hl 1 rfl) ?_
    refine mz_kV0 X hH hS hl.1.1 [va_rf v4, .int x1] [] hr (ct_X7_read l g h v3 v4 x1) mb_RX11_141 rfl im_X7_read rfl (Nat.le_of_ble_eq_true rfl) ⟨Nat.le_of_ble_eq_true rfl, Nat.le_of_ble_eq_true rfl⟩ hc hs dX11_scan_22 rfl (fun _ h H locs cells slots dc ds hr hH hS hc hs => ?_)
    refine mz_aload_n X dX11_scan_25 rfl (mz_at hl 0 rfl) ?_
    refine mz_getR X hH fl_RX11_19 dX11_scan_26 hr (fun v5 hr => ?_)
    refine mz_getI X hH fl_RX11_145 dX11_scan_29 hr (fun v6 hr => ?_)
    refine mz_if_ne X 45 dX11_scan_32 (by decide) hr (fun hr => ?_) (fun hr => ?_)
    · refine lv_bipush (v := (-20)) X.1 X.2.1 dX11_scan_45 (by decide) ?_
      refine mz_aload_n X dX11_scan_47 rfl (mz_at hl 0 rfl) ?_
      refine mz_getR X hH fl_RX11_19 dX11_scan_48 hr (fun v7 hr => ?_)
      refine mz_getI X hH fl_RX11_145 dX11_scan_51 hr (fun v8 hr => ?_)
      refine lv_isub X.1 X.2.1 dX11_scan_54 ?_
      exact mz_iret Y dX11_scan_55 hH hS hc hs hr
    · refine mz_aload_n X dX11_scan_35 rfl (mz_at hl 0 rfl) ?_
      refine mz_getR X hH fl_RX11_19 dX11_scan_36 hr (fun v9 hr => ?_)
      refine mz_getI X hH fl_RX11_148 dX11_scan_39 hr (fun v10 hr => ?_)
      refine lv_goto (tgt := 55) X.1 X.2.1 dX11_scan_42 (by decide) ?_
      exact mz_iret Y dX11_scan_55 hH hS hc hs hr
  · refine lv_iconst (v := (-1)) X.1 X.2.1 dX11_scan_11 (by decide) ?_
    exact mz_iret Y dX11_scan_12 hH hS hc hs hr
set_option maxRecDepth 100000 in
theorem ct_X11_scan (l : Launch) (g : mz_G) (h : mz_H) (a0 : (Option Nat)) (x1 : Int32) (r : Int32) (hf : mz_H) (k n : Nat) (hr : fn_X11_scan h a0 x1 = some (r, hf, k, n)) : mz_C l g yX11_scan cX11_scan 2 (some .int) 67 2592 [va_rf a0, .int x1] h (some (Value.int r)) hf k n := by
  refine mz_met (as := [(false, va_rf a0), (false, .int x1)]) (plainFor_of_name (by decide)) (mz_c1 (mz_cat_rf _) (mz_c1 rfl mz_c0)) (Nat.le_of_ble_eq_true rfl) ?_
  intro p e s m args below meth c Y
  exact pf_X11_scan_b0 r Y h a0 x1 _ _ hr
theorem dX11_broken_0 : decode cX11_broken 0 = .ok (.iload_n 1, 1) := by decide +kernel
theorem dX11_broken_1 : decode cX11_broken 1 = .ok (.tableswitch 63 0 3 #[31, 39, 47, 55], 31) := by decide +kernel
theorem dX11_broken_32 : decode cX11_broken 32 = .ok (.aload_n 0, 1) := by decide +kernel
theorem dX11_broken_33 : decode cX11_broken 33 = .ok (.getfield 19, 3) := by decide +kernel
theorem dX11_broken_36 : decode cX11_broken 36 = .ok (.getfield 145, 3) := by decide +kernel
theorem dX11_broken_39 : decode cX11_broken 39 = .ok (.ireturn, 1) := by decide +kernel
theorem dX11_broken_40 : decode cX11_broken 40 = .ok (.aload_n 0, 1) := by decide +kernel
theorem dX11_broken_41 : decode cX11_broken 41 = .ok (.getfield 19, 3) := by decide +kernel
theorem dX11_broken_44 : decode cX11_broken 44 = .ok (.getfield 149, 3) := by decide +kernel
theorem dX11_broken_47 : decode cX11_broken 47 = .ok (.ireturn, 1) := by decide +kernel
theorem dX11_broken_48 : decode cX11_broken 48 = .ok (.aload_n 0, 1) := by decide +kernel
theorem dX11_broken_49 : decode cX11_broken 49 = .ok (.getfield 19, 3) := by decide +kernel
theorem dX11_broken_52 : decode cX11_broken 52 = .ok (.getfield 152, 3) := by decide +kernel
theorem dX11_broken_55 : decode cX11_broken 55 = .ok (.ireturn, 1) := by decide +kernel
theorem dX11_broken_56 : decode cX11_broken 56 = .ok (.aload_n 0, 1) := by decide +kernel
theorem dX11_broken_57 : decode cX11_broken 57 = .ok (.getfield 19, 3) := by decide +kernel
theorem dX11_broken_60 : decode cX11_broken 60 = .ok (.getfield 155, 3) := by decide +kernel
theorem dX11_broken_63 : decode cX11_broken 63 = .ok (.ireturn, 1) := by decide +kernel
theorem dX11_broken_64 : decode cX11_broken 64 = .ok (.bipush (-2), 2) := by decide +kernel
theorem dX11_broken_66 : decode cX11_broken 66 = .ok (.ireturn, 1) := by decide +kernel
def fn_X11_broken (h : mz_H) (a0 : (Option Nat)) (x1 : Int32) : mz_Res Int32 :=
  if x1 = 0 then
    mz_op (mz_fR h a0 10 1) fun v1 =>
    mz_op (mz_fI h v1 6 3) fun v2 =>
    mz_ret v2 h
  else
  if x1 = 1 then
    mz_op (mz_fR h a0 10 1) fun v3 =>
    mz_op (mz_fI h v3 6 4) fun v4 =>
    mz_ret v4 h
  else
  if x1 = 2 then
    mz_op (mz_fR h a0 10 1) fun v5 =>
    mz_op (mz_fI h v5 6 5) fun v6 =>
    mz_ret v6 h
  else
  if x1 = 3 then
    mz_op (mz_fR h a0 10 1) fun v7 =>
    mz_op (mz_fI h v7 6 6) fun v8 =>
    mz_ret v8 h
  else
  mz_ret (-2) h
set_option maxHeartbeats 4000000 in
set_option maxRecDepth 100000 in
theorem pf_X11_broken_b0 (r : Int32) (Y : mz_Y p g RX11 cX11_broken 2 (some .int) "broken" (mz_AF h0) s m args meth c) (h : mz_H) (a0 : (Option Nat)) (x1 : Int32) (dc ds : Nat) (hr : fn_X11_broken h a0 x1 = some (r, hf, dc, ds)) : mz_Go l g p e s m args below meth c 0 0 DC DS h0 (some (Value.int r)) hf 2 0 [(0, false, va_rf a0), (1, false, .int x1)] [] h dc ds := by
  unfold fn_X11_broken at hr
  intro H locs cells slots ls hH hS hl hc hs
  have X := Y.1
  refine lv_iload_n X.1 X.2.1 dX11_broken_0 rfl (mz_at hl 1 rfl) ?_
  by_cases q0 : x1 = 0
  · rw [if_pos q0] at hr
    refine mz_tin X dX11_broken_1 q0 32 (by decide) (by decide) rfl (by decide) ?_
    refine mz_aload_n X dX11_broken_32 rfl (mz_at hl 0 rfl) ?_
    refine mz_getR X hH fl_RX11_19 dX11_broken_33 hr (fun v1 hr => ?_)
    refine mz_getI X hH fl_RX11_145 dX11_broken_36 hr (fun v2 hr => ?_)
    exact mz_iret Y dX11_broken_39 hH hS hc hs hr
  rw [if_neg q0] at hr
  by_cases q1 : x1 = 1
  · rw [if_pos q1] at hr
    refine mz_tin X dX11_broken_1 q1 40 (by decide) (by decide) rfl (by decide) ?_
    refine mz_aload_n X dX11_broken_40 rfl (mz_at hl 0 rfl) ?_
    refine mz_getR X hH fl_RX11_19 dX11_broken_41 hr (fun v3 hr => ?_)
    refine mz_getI X hH fl_RX11_149 dX11_broken_44 hr (fun v4 hr => ?_)
    exact mz_iret Y dX11_broken_47 hH hS hc hs hr
  rw [if_neg q1] at hr
  by_cases q2 : x1 = 2
  · rw [if_pos q2] at hr
    refine mz_tin X dX11_broken_1 q2 48 (by decide) (by decide) rfl (by decide) ?_
    refine mz_aload_n X dX11_broken_48 rfl (mz_at hl 0 rfl) ?_
    refine mz_getR X hH fl_RX11_19 dX11_broken_49 hr (fun v5 hr => ?_)
    refine mz_getI X hH fl_RX11_152 dX11_broken_52 hr (fun v6 hr => ?_)
    exact mz_iret Y dX11_broken_55 hH hS hc hs hr
  rw [if_neg q2] at hr
  by_cases q3 : x1 = 3
  · rw [if_pos q3] at hr
    refine mz_tin X dX11_broken_1 q3 56 (by decide) (by decide) rfl (by decide) ?_
    refine mz_aload_n X dX11_broken_56 rfl (mz_at hl 0 rfl) ?_
    refine mz_getR X hH fl_RX11_19 dX11_broken_57 hr (fun v7 hr => ?_)
    refine mz_getI X hH fl_RX11_155 dX11_broken_60 hr (fun v8 hr => ?_)
    exact mz_iret Y dX11_broken_63 hH hS hc hs hr
  rw [if_neg q3] at hr
  have kd : W p l e ({ frames := 0, cells := DC, slots := DS, locals := 0 }) s m args below meth c H locs cells slots (MQ below (mz_Q g h0 (some (Value.int r)) hf) args s DC DS (mz_AF h0)) (F0 m 64 ls []) := by
    refine lv_bipush (v := (-2)) X.1 X.2.1 dX11_broken_64 (by decide) ?_
    exact mz_iret Y dX11_broken_66 hH hS hc hs hr
  have t0 : ¬ (x1 : Int32).toInt = 0 := fun z => q0 (mz_ti 0 (by decide) z)
  have t1 : ¬ (x1 : Int32).toInt = 1 := fun z => q1 (mz_ti 1 (by decide) z)
  have t2 : ¬ (x1 : Int32).toInt = 2 := fun z => q2 (mz_ti 2 (by decide) z)
  have t3 : ¬ (x1 : Int32).toInt = 3 := fun z => q3 (mz_ti 3 (by decide) z)
  exact mz_tout X dX11_broken_1 64 (by omega) (by decide) kd
set_option maxRecDepth 100000 in
theorem ct_X11_broken (l : Launch) (g : mz_G) (h : mz_H) (a0 : (Option Nat)) (x1 : Int32) (r : Int32) (hf : mz_H) (k n : Nat) (hr : fn_X11_broken h a0 x1 = some (r, hf, k, n)) : mz_C l g yX11_broken cX11_broken 2 (some .int) 0 0 [va_rf a0, .int x1] h (some (Value.int r)) hf k n := by
  refine mz_met (as := [(false, va_rf a0), (false, .int x1)]) (plainFor_of_name (by decide)) (mz_c1 (mz_cat_rf _) (mz_c1 rfl mz_c0)) (Nat.le_of_ble_eq_true rfl) ?_
  intro p e s m args below meth c Y
  exact pf_X11_broken_b0 r Y h a0 x1 _ _ hr
theorem dX11_entry_0 : decode cX11_entry 0 = .ok (.aload_n 0, 1) := by decide +kernel
theorem dX11_entry_1 : decode cX11_entry 1 = .ok (.getfield 19, 3) := by decide +kernel
theorem dX11_entry_4 : decode cX11_entry 4 = .ok (.iload_n 1, 1) := by decide +kernel
theorem dX11_entry_5 : decode cX11_entry 5 = .ok (.invokevirtual 158, 3) := by decide +kernel
theorem dX11_entry_8 : decode cX11_entry 8 = .ok (.astore_n 3, 1) := by decide +kernel
theorem dX11_entry_9 : decode cX11_entry 9 = .ok (.aload_n 3, 1) := by decide +kernel
theorem dX11_entry_10 : decode cX11_entry 10 = .ok (.ifnonnull 5, 3) := by decide +kernel
theorem dX11_entry_13 : decode cX11_entry 13 = .ok (.iconst (-1), 1) := by decide +kernel
theorem dX11_entry_14 : decode cX11_entry 14 = .ok (.ireturn, 1) := by decide +kernel
theorem dX11_entry_15 : decode cX11_entry 15 = .ok (.iload_n 2, 1) := by decide +kernel
theorem dX11_entry_16 : decode cX11_entry 16 = .ok (.tableswitch 79 0 6 #[44, 49, 54, 59, 64, 69, 74], 44) := by decide +kernel
theorem dX11_entry_60 : decode cX11_entry 60 = .ok (.aload_n 3, 1) := by decide +kernel
theorem dX11_entry_61 : decode cX11_entry 61 = .ok (.getfield 162, 3) := by decide +kernel
theorem dX11_entry_64 : decode cX11_entry 64 = .ok (.ireturn, 1) := by decide +kernel
theorem dX11_entry_65 : decode cX11_entry 65 = .ok (.aload_n 3, 1) := by decide +kernel
theorem dX11_entry_66 : decode cX11_entry 66 = .ok (.getfield 167, 3) := by decide +kernel
theorem dX11_entry_69 : decode cX11_entry 69 = .ok (.ireturn, 1) := by decide +kernel
theorem dX11_entry_70 : decode cX11_entry 70 = .ok (.aload_n 3, 1) := by decide +kernel
theorem dX11_entry_71 : decode cX11_entry 71 = .ok (.getfield 170, 3) := by decide +kernel
theorem dX11_entry_74 : decode cX11_entry 74 = .ok (.ireturn, 1) := by decide +kernel
theorem dX11_entry_75 : decode cX11_entry 75 = .ok (.aload_n 3, 1) := by decide +kernel
theorem dX11_entry_76 : decode cX11_entry 76 = .ok (.getfield 173, 3) := by decide +kernel
theorem dX11_entry_79 : decode cX11_entry 79 = .ok (.ireturn, 1) := by decide +kernel
theorem dX11_entry_80 : decode cX11_entry 80 = .ok (.aload_n 3, 1) := by decide +kernel
theorem dX11_entry_81 : decode cX11_entry 81 = .ok (.getfield 176, 3) := by decide +kernel
theorem dX11_entry_84 : decode cX11_entry 84 = .ok (.ireturn, 1) := by decide +kernel
theorem dX11_entry_85 : decode cX11_entry 85 = .ok (.aload_n 3, 1) := by decide +kernel
theorem dX11_entry_86 : decode cX11_entry 86 = .ok (.getfield 179, 3) := by decide +kernel
theorem dX11_entry_89 : decode cX11_entry 89 = .ok (.ireturn, 1) := by decide +kernel
theorem dX11_entry_90 : decode cX11_entry 90 = .ok (.aload_n 3, 1) := by decide +kernel
theorem dX11_entry_91 : decode cX11_entry 91 = .ok (.getfield 182, 3) := by decide +kernel
theorem dX11_entry_94 : decode cX11_entry 94 = .ok (.ireturn, 1) := by decide +kernel
theorem dX11_entry_95 : decode cX11_entry 95 = .ok (.bipush (-2), 2) := by decide +kernel
theorem dX11_entry_97 : decode cX11_entry 97 = .ok (.ireturn, 1) := by decide +kernel
def fn_X11_entry (h : mz_H) (a0 : (Option Nat)) (x1 : Int32) (x2 : Int32) : mz_Res Int32 :=
  mz_op (mz_fR h a0 10 1) fun v1 =>
  mz_chk (mz_is h v1 6) <| mz_call (fn_X7_entryAt h v1 x1) fun v2 h =>
  if v2 = none then
    mz_ret (-1) h
  else
    if x2 = 0 then
      mz_op (mz_fI h v2 1 0) fun v3 =>
      mz_ret v3 h
    else
    if x2 = 1 then
      mz_op (mz_fI h v2 1 1) fun v4 =>
      mz_ret v4 h
    else
    if x2 = 2 then
      mz_op (mz_fI h v2 1 2) fun v5 =>
      mz_ret v5 h
    else
    if x2 = 3 then
      mz_op (mz_fI h v2 1 3) fun v6 =>
      mz_ret v6 h
    else
    if x2 = 4 then
      mz_op (mz_fI h v2 1 4) fun v7 =>
      mz_ret v7 h
    else
    if x2 = 5 then
      mz_op (mz_fI h v2 1 5) fun v8 =>
      mz_ret v8 h
    else
    if x2 = 6 then
      mz_op (mz_fI h v2 1 6) fun v9 =>
      mz_ret v9 h
    else
    mz_ret (-2) h
set_option maxHeartbeats 4000000 in
set_option maxRecDepth 100000 in
theorem pf_X11_entry_b0 (r : Int32) (Y : mz_Y p g RX11 cX11_entry 4 (some .int) "entry" (mz_AF h0) s m args meth c) (h : mz_H) (a0 : (Option Nat)) (x1 : Int32) (x2 : Int32) (dc ds : Nat) (hr : fn_X11_entry h a0 x1 x2 = some (r, hf, dc, ds)) : mz_Go l g p e s m args below meth c 1 21 DC DS h0 (some (Value.int r)) hf 4 0 [(0, false, va_rf a0), (1, false, .int x1), (2, false, .int x2)] [] h dc ds := by
  unfold fn_X11_entry at hr
  intro H locs cells slots ls hH hS hl hc hs
  have X := Y.1
  refine mz_aload_n X dX11_entry_0 rfl (mz_at hl 0 rfl) ?_
  refine mz_getR X hH fl_RX11_19 dX11_entry_1 hr (fun v1 hr => ?_)
  refine lv_iload_n X.1 X.2.1 dX11_entry_4 rfl (mz_at hl 1 rfl) ?_
  refine mz_kV va_rf X hH hS hl.1.1 [.int x1] [] hr (ct_X7_entryAt l g h v1 x1) mb_RX11_158 rfl im_X7_entryAt rfl (Nat.le_of_ble_eq_true rfl) ⟨Nat.le_of_ble_eq_true rfl, Nat.le_of_ble_eq_true rfl⟩ hc hs dX11_entry_5 rfl (fun v2 h H locs cells slots dc ds hr hH hS hc hs => ?_)
  refine mz_astore_n X [(3, false, va_rf v2), (0, false, va_rf a0), (1, false, .int x1), (2, false, .int x2)] dX11_entry_8 rfl hl (by decide) rfl (fun ls hl => ?_)
  refine mz_aload_n X dX11_entry_9 rfl (mz_at hl 0 rfl) ?_
  refine mz_ifnonnull X 15 dX11_entry_10 (by decide) hr (fun hr => ?_) (fun hr => ?_)
  · refine lv_iload_n X.1 X.2.1 dX11_entry_15 rfl (mz_at hl 3 rfl) ?_
    by_cases q0 : x2 = 0
    · rw [if_pos q0] at hr
      refine mz_tin X dX11_entry_16 q0 60 (by decide) (by decide) rfl (by decide) ?_
      refine mz_aload_n X dX11_entry_60 rfl (mz_at hl 0 rfl) ?_
      refine mz_getI X hH fl_RX11_162 dX11_entry_61 hr (fun v3 hr => ?_)
      exact mz_iret Y dX11_entry_64 hH hS hc hs hr
    rw [if_neg q0] at hr
    by_cases q1 : x2 = 1
    · rw [if_pos q1] at hr
      refine mz_tin X dX11_entry_16 q1 65 (by decide) (by decide) rfl (by decide) ?_
      refine mz_aload_n X dX11_entry_65 rfl (mz_at hl 0 rfl) ?_
      refine mz_getI X hH fl_RX11_167 dX11_entry_66 hr (fun v4 hr => ?_)
      exact mz_iret Y dX11_entry_69 hH hS hc hs hr
    rw [if_neg q1] at hr
    by_cases q2 : x2 = 2
    · rw [if_pos q2] at hr
      refine mz_tin X dX11_entry_16 q2 70 (by decide) (by decide) rfl (by decide) ?_
      refine mz_aload_n X dX11_entry_70 rfl (mz_at hl 0 rfl) ?_
      refine mz_getI X hH fl_RX11_170 dX11_entry_71 hr (fun v5 hr => ?_)
      exact mz_iret Y dX11_entry_74 hH hS hc hs hr
    rw [if_neg q2] at hr
    by_cases q3 : x2 = 3
    · rw [if_pos q3] at hr
      refine mz_tin X dX11_entry_16 q3 75 (by decide) (by decide) rfl (by decide) ?_
      refine mz_aload_n X dX11_entry_75 rfl (mz_at hl 0 rfl) ?_
      refine mz_getI X hH fl_RX11_173 dX11_entry_76 hr (fun v6 hr => ?_)
      exact mz_iret Y dX11_entry_79 hH hS hc hs hr
    rw [if_neg q3] at hr
    by_cases q4 : x2 = 4
    · rw [if_pos q4] at hr
      refine mz_tin X dX11_entry_16 q4 80 (by decide) (by decide) rfl (by decide) ?_
      refine mz_aload_n X dX11_entry_80 rfl (mz_at hl 0 rfl) ?_
      refine mz_getI X hH fl_RX11_176 dX11_entry_81 hr (fun v7 hr => ?_)
      exact mz_iret Y dX11_entry_84 hH hS hc hs hr
    rw [if_neg q4] at hr
    by_cases q5 : x2 = 5
    · rw [if_pos q5] at hr
      refine mz_tin X dX11_entry_16 q5 85 (by decide) (by decide) rfl (by decide) ?_
      refine mz_aload_n X dX11_entry_85 rfl (mz_at hl 0 rfl) ?_
      refine mz_getI X hH fl_RX11_179 dX11_entry_86 hr (fun v8 hr => ?_)
      exact mz_iret Y dX11_entry_89 hH hS hc hs hr
    rw [if_neg q5] at hr
    by_cases q6 : x2 = 6
    · rw [if_pos q6] at hr
      refine mz_tin X dX11_entry_16 q6 90 (by decide) (by decide) rfl (by decide) ?_
      refine mz_aload_n X dX11_entry_90 rfl (mz_at hl 0 rfl) ?_
      refine mz_getI X hH fl_RX11_182 dX11_entry_91 hr (fun v9 hr => ?_)
      exact mz_iret Y dX11_entry_94 hH hS hc hs hr
    rw [if_neg q6] at hr
    have kd : W p l e ({ frames := 1, cells := DC, slots := DS, locals := 21 }) s m args below meth c H locs cells slots (MQ below (mz_Q g h0 (some (Value.int r)) hf) args s DC DS (mz_AF h0)) (F0 m 95 ls []) := by
      refine lv_bipush (v := (-2)) X.1 X.2.1 dX11_entry_95 (by decide) ?_
      exact mz_iret Y dX11_entry_97 hH hS hc hs hr
    have t0 : ¬ (x2 : Int32).toInt = 0 := fun z => q0 (mz_ti 0 (by decide) z)
    have t1 : ¬ (x2 : Int32).toInt = 1 := fun z => q1 (mz_ti 1 (by decide) z)
    have t2 : ¬ (x2 : Int32).toInt = 2 := fun z => q2 (mz_ti 2 (by decide) z)
    have t3 : ¬ (x2 : Int32).toInt = 3 := fun z => q3 (mz_ti 3 (by decide) z)
    have t4 : ¬ (x2 : Int32).toInt = 4 := fun z => q4 (mz_ti 4 (by decide) z)
    have t5 : ¬ (x2 : Int32).toInt = 5 := fun z => q5 (mz_ti 5 (by decide) z)
    have t6 : ¬ (x2 : Int32).toInt = 6 := fun z => q6 (mz_ti 6 (by decide) z)
    exact mz_tout X dX11_entry_16 95 (by omega) (by decide) kd
  · refine lv_iconst (v := (-1)) X.1 X.2.1 dX11_entry_13 (by decide) ?_
    exact mz_iret Y dX11_entry_14 hH hS hc hs hr
set_option maxRecDepth 100000 in
theorem ct_X11_entry (l : Launch) (g : mz_G) (h : mz_H) (a0 : (Option Nat)) (x1 : Int32) (x2 : Int32) (r : Int32) (hf : mz_H) (k n : Nat) (hr : fn_X11_entry h a0 x1 x2 = some (r, hf, k, n)) : mz_C l g yX11_entry cX11_entry 4 (some .int) 1 21 [va_rf a0, .int x1, .int x2] h (some (Value.int r)) hf k n := by
  refine mz_met (as := [(false, va_rf a0), (false, .int x1), (false, .int x2)]) (plainFor_of_name (by decide)) (mz_c1 (mz_cat_rf _) (mz_c1 rfl (mz_c1 rfl mz_c0))) (Nat.le_of_ble_eq_true rfl) ?_
  intro p e s m args below meth c Y
  exact pf_X11_entry_b0 r Y h a0 x1 x2 _ _ hr
theorem dX11_comeTo_0 : decode cX11_comeTo 0 = .ok (.aload_n 0, 1) := by decide +kernel
theorem dX11_comeTo_1 : decode cX11_comeTo 1 = .ok (.iload_n 1, 1) := by decide +kernel
theorem dX11_comeTo_2 : decode cX11_comeTo 2 = .ok (.putfield 185, 3) := by decide +kernel
theorem dX11_comeTo_5 : decode cX11_comeTo 5 = .ok (.aload_n 0, 1) := by decide +kernel
theorem dX11_comeTo_6 : decode cX11_comeTo 6 = .ok (.dup, 1) := by decide +kernel
theorem dX11_comeTo_7 : decode cX11_comeTo 7 = .ok (.getfield 373, 3) := by decide +kernel
theorem dX11_comeTo_10 : decode cX11_comeTo 10 = .ok (.iconst 1, 1) := by decide +kernel
theorem dX11_comeTo_11 : decode cX11_comeTo 11 = .ok (.iadd, 1) := by decide +kernel
theorem dX11_comeTo_12 : decode cX11_comeTo 12 = .ok (.putfield 373, 3) := by decide +kernel
theorem dX11_comeTo_15 : decode cX11_comeTo 15 = .ok (.bipush (-10), 2) := by decide +kernel
theorem dX11_comeTo_17 : decode cX11_comeTo 17 = .ok (.iload_n 1, 1) := by decide +kernel
theorem dX11_comeTo_18 : decode cX11_comeTo 18 = .ok (.isub, 1) := by decide +kernel
theorem dX11_comeTo_19 : decode cX11_comeTo 19 = .ok (.ireturn, 1) := by decide +kernel
def fn_X11_comeTo (h : mz_H) (a0 : (Option Nat)) (x1 : Int32) : mz_Res Int32 :=
  mz_op (mz_pF h a0 10 8 (Value.int x1)) fun h =>
  mz_op (mz_fI h a0 10 9) fun v1 =>
  mz_op (mz_pF h a0 10 9 (Value.int (v1 + 1))) fun h =>
  mz_ret ((-10) - x1) h
set_option maxHeartbeats 4000000 in
set_option maxRecDepth 100000 in
theorem pf_X11_comeTo_b0 (r : Int32) (Y : mz_Y p g RX11 cX11_comeTo 2 (some .int) "comeTo" (mz_AF h0) s m args meth c) (h : mz_H) (a0 : (Option Nat)) (x1 : Int32) (dc ds : Nat) (hr : fn_X11_comeTo h a0 x1 = some (r, hf, dc, ds)) : mz_Go l g p e s m args below meth c 0 0 DC DS h0 (some (Value.int r)) hf 2 0 [(0, false, va_rf a0), (1, false, .int x1)] [] h dc ds := by
  unfold fn_X11_comeTo at hr
  intro H locs cells slots ls hH hS hl hc hs
  have X := Y.1
  refine mz_aload_n X dX11_comeTo_0 rfl (mz_at hl 0 rfl) ?_
  refine lv_iload_n X.1 X.2.1 dX11_comeTo_1 rfl (mz_at hl 1 rfl) ?_
  refine mz_put X hH hS fp_RX11_185 dX11_comeTo_2 rfl rfl hr (fun h H locs hr hH hS => ?_)
  refine mz_aload_n X dX11_comeTo_5 rfl (mz_at hl 0 rfl) ?_
  refine mz_dupR X dX11_comeTo_6 ?_
  refine mz_getI X hH fl_RX11_373 dX11_comeTo_7 hr (fun v1 hr => ?_)
  refine lv_iconst (v := 1) X.1 X.2.1 dX11_comeTo_10 (by decide) ?_
  refine lv_iadd X.1 X.2.1 dX11_comeTo_11 ?_
  refine mz_put X hH hS fp_RX11_373 dX11_comeTo_12 rfl rfl hr (fun h H locs hr hH hS => ?_)
  refine lv_bipush (v := (-10)) X.1 X.2.1 dX11_comeTo_15 (by decide) ?_
  refine lv_iload_n X.1 X.2.1 dX11_comeTo_17 rfl (mz_at hl 1 rfl) ?_
  refine lv_isub X.1 X.2.1 dX11_comeTo_18 ?_
  exact mz_iret Y dX11_comeTo_19 hH hS hc hs hr
set_option maxRecDepth 100000 in
theorem ct_X11_comeTo (l : Launch) (g : mz_G) (h : mz_H) (a0 : (Option Nat)) (x1 : Int32) (r : Int32) (hf : mz_H) (k n : Nat) (hr : fn_X11_comeTo h a0 x1 = some (r, hf, k, n)) : mz_C l g yX11_comeTo cX11_comeTo 2 (some .int) 0 0 [va_rf a0, .int x1] h (some (Value.int r)) hf k n := by
  refine mz_met (as := [(false, va_rf a0), (false, .int x1)]) (plainFor_of_name (by decide)) (mz_c1 (mz_cat_rf _) (mz_c1 rfl mz_c0)) (Nat.le_of_ble_eq_true rfl) ?_
  intro p e s m args below meth c Y
  exact pf_X11_comeTo_b0 r Y h a0 x1 _ _ hr
theorem dX11_tally_0 : decode cX11_tally 0 = .ok (.aload_n 0, 1) := by decide +kernel
theorem dX11_tally_1 : decode cX11_tally 1 = .ok (.iconst 0, 1) := by decide +kernel
theorem dX11_tally_2 : decode cX11_tally 2 = .ok (.putfield 185, 3) := by decide +kernel
theorem dX11_tally_5 : decode cX11_tally 5 = .ok (.aload_n 0, 1) := by decide +kernel
theorem dX11_tally_6 : decode cX11_tally 6 = .ok (.getfield 10, 3) := by decide +kernel
theorem dX11_tally_9 : decode cX11_tally 9 = .ok (.iload_n 1, 1) := by decide +kernel
theorem dX11_tally_10 : decode cX11_tally 10 = .ok (.invokevirtual 48, 3) := by decide +kernel
theorem dX11_tally_13 : decode cX11_tally 13 = .ok (.astore 4, 2) := by decide +kernel
theorem dX11_tally_15 : decode cX11_tally 15 = .ok (.aload 4, 2) := by decide +kernel
theorem dX11_tally_17 : decode cX11_tally 17 = .ok (.ifnonnull 5, 3) := by decide +kernel
theorem dX11_tally_20 : decode cX11_tally 20 = .ok (.iconst (-1), 1) := by decide +kernel
theorem dX11_tally_21 : decode cX11_tally 21 = .ok (.ireturn, 1) := by decide +kernel
theorem dX11_tally_22 : decode cX11_tally 22 = .ok (.iload_n 2, 1) := by decide +kernel
theorem dX11_tally_23 : decode cX11_tally 23 = .ok (.ifCond .lt 13, 3) := by decide +kernel
theorem dX11_tally_26 : decode cX11_tally 26 = .ok (.iload_n 2, 1) := by decide +kernel
theorem dX11_tally_27 : decode cX11_tally 27 = .ok (.aload 4, 2) := by decide +kernel
theorem dX11_tally_29 : decode cX11_tally 29 = .ok (.getfield 188, 3) := by decide +kernel
theorem dX11_tally_32 : decode cX11_tally 32 = .ok (.arraylength, 1) := by decide +kernel
theorem dX11_tally_33 : decode cX11_tally 33 = .ok (.if_icmp .lt 6, 3) := by decide +kernel
theorem dX11_tally_36 : decode cX11_tally 36 = .ok (.bipush (-2), 2) := by decide +kernel
theorem dX11_tally_38 : decode cX11_tally 38 = .ok (.ireturn, 1) := by decide +kernel
theorem dX11_tally_39 : decode cX11_tally 39 = .ok (.iload_n 2, 1) := by decide +kernel
theorem dX11_tally_40 : decode cX11_tally 40 = .ok (.iconst 1, 1) := by decide +kernel
theorem dX11_tally_41 : decode cX11_tally 41 = .ok (.if_icmp .ne 11, 3) := by decide +kernel
theorem dX11_tally_44 : decode cX11_tally 44 = .ok (.aload 4, 2) := by decide +kernel
theorem dX11_tally_46 : decode cX11_tally 46 = .ok (.invokevirtual 191, 3) := by decide +kernel
theorem dX11_tally_49 : decode cX11_tally 49 = .ok (.ifCond .eq 17, 3) := by decide +kernel
theorem dX11_tally_52 : decode cX11_tally 52 = .ok (.iload_n 2, 1) := by decide +kernel
theorem dX11_tally_53 : decode cX11_tally 53 = .ok (.iconst 2, 1) := by decide +kernel
theorem dX11_tally_54 : decode cX11_tally 54 = .ok (.if_icmp .ne 18, 3) := by decide +kernel
theorem dX11_tally_57 : decode cX11_tally 57 = .ok (.aload 4, 2) := by decide +kernel
theorem dX11_tally_59 : decode cX11_tally 59 = .ok (.getfield 72, 3) := by decide +kernel
theorem dX11_tally_62 : decode cX11_tally 62 = .ok (.iconst 3, 1) := by decide +kernel
theorem dX11_tally_63 : decode cX11_tally 63 = .ok (.if_icmp .eq 9, 3) := by decide +kernel
theorem dX11_tally_66 : decode cX11_tally 66 = .ok (.aload_n 0, 1) := by decide +kernel
theorem dX11_tally_67 : decode cX11_tally 67 = .ok (.iconst 2, 1) := by decide +kernel
theorem dX11_tally_68 : decode cX11_tally 68 = .ok (.invokevirtual 195, 3) := by decide +kernel
theorem dX11_tally_71 : decode cX11_tally 71 = .ok (.ireturn, 1) := by decide +kernel
theorem dX11_tally_72 : decode cX11_tally 72 = .ok (.aload 4, 2) := by decide +kernel
theorem dX11_tally_74 : decode cX11_tally 74 = .ok (.getfield 188, 3) := by decide +kernel
theorem dX11_tally_77 : decode cX11_tally 77 = .ok (.iload_n 2, 1) := by decide +kernel
theorem dX11_tally_78 : decode cX11_tally 78 = .ok (.dup2, 1) := by decide +kernel
theorem dX11_tally_79 : decode cX11_tally 79 = .ok (.iaload, 1) := by decide +kernel
theorem dX11_tally_80 : decode cX11_tally 80 = .ok (.iload_n 3, 1) := by decide +kernel
theorem dX11_tally_81 : decode cX11_tally 81 = .ok (.iadd, 1) := by decide +kernel
theorem dX11_tally_82 : decode cX11_tally 82 = .ok (.iastore, 1) := by decide +kernel
theorem dX11_tally_83 : decode cX11_tally 83 = .ok (.aload 4, 2) := by decide +kernel
theorem dX11_tally_85 : decode cX11_tally 85 = .ok (.getfield 188, 3) := by decide +kernel
theorem dX11_tally_88 : decode cX11_tally 88 = .ok (.iload_n 2, 1) := by decide +kernel
theorem dX11_tally_89 : decode cX11_tally 89 = .ok (.iaload, 1) := by decide +kernel
theorem dX11_tally_90 : decode cX11_tally 90 = .ok (.ireturn, 1) := by decide +kernel
def fn_X11_tally_b72 (h : mz_H) (x2 : Int32) (x3 : Int32) (a4 : (Option Nat)) : mz_Res Int32 :=
  mz_op (mz_fR h a4 8 9) fun v1 =>
  mz_op (mz_aI h v1 0 x2) fun v2 =>
  mz_op (mz_sI h v1 0 x2 (v2 + x3)) fun h =>
  mz_op (mz_fR h a4 8 9) fun v3 =>
  mz_op (mz_aI h v3 0 x2) fun v4 =>
  mz_ret v4 h
set_option maxHeartbeats 4000000 in
set_option maxRecDepth 100000 in
theorem pf_X11_tally_b72 (r : Int32) (Y : mz_Y p g RX11 cX11_tally 5 (some .int) "tally" (mz_AF h0) s m args meth c) (h : mz_H) (x2 : Int32) (x3 : Int32) (a4 : (Option Nat)) (dc ds : Nat) (hr : fn_X11_tally_b72 h x2 x3 a4 = some (r, hf, dc, ds)) : mz_Go l g p e s m args below meth c 1 21 DC DS h0 (some (Value.int r)) hf 5 72 [(2, false, .int x2), (3, false, .int x3), (4, false, va_rf a4)] [] h dc ds := by
  unfold fn_X11_tally_b72 at hr
  intro H locs cells slots ls hH hS hl hc hs
  have X := Y.1
  refine mz_aload X dX11_tally_72 (mz_at hl 2 rfl) ?_
  refine mz_getR X hH fl_RX11_188 dX11_tally_74 hr (fun v1 hr => ?_)
  refine lv_iload_n X.1 X.2.1 dX11_tally_77 rfl (mz_at hl 0 rfl) ?_
  refine mz_dup2 X dX11_tally_78 ?_
  refine mz_iald X hH dX11_tally_79 hr (fun v2 hr => ?_)
  refine lv_iload_n X.1 X.2.1 dX11_tally_80 rfl (mz_at hl 1 rfl) ?_
  refine lv_iadd X.1 X.2.1 dX11_tally_81 ?_
  refine mz_iast X hH hS dX11_tally_82 hr (fun h H locs hr hH hS => ?_)
  refine mz_aload X dX11_tally_83 (mz_at hl 2 rfl) ?_
  refine mz_getR X hH fl_RX11_188 dX11_tally_85 hr (fun v3 hr => ?_)
  refine lv_iload_n X.1 X.2.1 dX11_tally_88 rfl (mz_at hl 0 rfl) ?_
  refine mz_iald X hH dX11_tally_89 hr (fun v4 hr => ?_)
  exact mz_iret Y dX11_tally_90 hH hS hc hs hr
def fn_X11_tally_b66 (h : mz_H) (a0 : (Option Nat)) : mz_Res Int32 :=
  mz_chk (mz_is h a0 10) <| mz_call (fn_X11_comeTo h a0 2) fun v1 h =>
  mz_ret v1 h
set_option maxHeartbeats 4000000 in
set_option maxRecDepth 100000 in
theorem pf_X11_tally_b66 (r : Int32) (Y : mz_Y p g RX11 cX11_tally 5 (some .int) "tally" (mz_AF h0) s m args meth c) (h : mz_H) (a0 : (Option Nat)) (dc ds : Nat) (hr : fn_X11_tally_b66 h a0 = some (r, hf, dc, ds)) : mz_Go l g p e s m args below meth c 1 21 DC DS h0 (some (Value.int r)) hf 5 66 [(0, false, va_rf a0)] [] h dc ds := by
  unfold fn_X11_tally_b66 at hr
  intro H locs cells slots ls hH hS hl hc hs
  have X := Y.1
  refine mz_aload_n X dX11_tally_66 rfl (mz_at hl 0 rfl) ?_
  refine lv_iconst (v := 2) X.1 X.2.1 dX11_tally_67 (by decide) ?_
  refine mz_kV Value.int X hH hS hl.1.1 [.int 2] [] hr (ct_X11_comeTo l g h a0 2) mb_RX11_195 rfl im_X11_comeTo rfl (Nat.le_of_ble_eq_true rfl) ⟨Nat.le_of_ble_eq_true rfl, Nat.le_of_ble_eq_true rfl⟩ hc hs dX11_tally_68 rfl (fun v1 h H locs cells slots dc ds hr hH hS hc hs => ?_)
  exact mz_iret Y dX11_tally_71 hH hS hc hs hr
def fn_X11_tally_b52 (h : mz_H) (a0 : (Option Nat)) (x2 : Int32) (x3 : Int32) (a4 : (Option Nat)) : mz_Res Int32 :=
  if x2 = 2 then
    mz_op (mz_fI h a4 8 0) fun v1 =>
    if v1 = 3 then
      fn_X11_tally_b72 h x2 x3 a4
    else
      fn_X11_tally_b66 h a0
  else
    fn_X11_tally_b72 h x2 x3 a4
set_option maxHeartbeats 4000000 in
set_option maxRecDepth 100000 in
theorem pf_X11_tally_b52 (r : Int32) (Y : mz_Y p g RX11 cX11_tally 5 (some .int) "tally" (mz_AF h0) s m args meth c) (h : mz_H) (a0 : (Option Nat)) (x2 : Int32) (x3 : Int32) (a4 : (Option Nat)) (dc ds : Nat) (hr : fn_X11_tally_b52 h a0 x2 x3 a4 = some (r, hf, dc, ds)) : mz_Go l g p e s m args below meth c 1 21 DC DS h0 (some (Value.int r)) hf 5 52 [(0, false, va_rf a0), (2, false, .int x2), (3, false, .int x3), (4, false, va_rf a4)] [] h dc ds := by
  unfold fn_X11_tally_b52 at hr
  intro H locs cells slots ls hH hS hl hc hs
  have X := Y.1
  refine lv_iload_n X.1 X.2.1 dX11_tally_52 rfl (mz_at hl 1 rfl) ?_
  refine lv_iconst (v := 2) X.1 X.2.1 dX11_tally_53 (by decide) ?_
  refine mz_icmp_ne X 72 dX11_tally_54 (by decide) hr (fun hr => ?_) (fun hr => ?_)
  · exact pf_X11_tally_b72 r Y h x2 x3 a4 _ _ hr H locs cells slots ls hH hS (mz_sub hl [1, 2, 3] rfl) hc hs
  · refine mz_aload X dX11_tally_57 (mz_at hl 3 rfl) ?_
    refine mz_getI X hH fl_RX11_72 dX11_tally_59 hr (fun v1 hr => ?_)
    refine lv_iconst (v := 3) X.1 X.2.1 dX11_tally_62 (by decide) ?_
    refine mz_icmp_eq X 72 dX11_tally_63 (by decide) hr (fun hr => ?_) (fun hr => ?_)
    · exact pf_X11_tally_b72 r Y h x2 x3 a4 _ _ hr H locs cells slots ls hH hS (mz_sub hl [1, 2, 3] rfl) hc hs
    · exact pf_X11_tally_b66 r Y h a0 _ _ hr H locs cells slots ls hH hS (mz_sub hl [0] rfl) hc hs
def fn_X11_tally (h : mz_H) (a0 : (Option Nat)) (x1 : Int32) (x2 : Int32) (x3 : Int32) : mz_Res Int32 :=
  mz_op (mz_pF h a0 10 8 (Value.int 0)) fun h =>
  mz_op (mz_fR h a0 10 0) fun v1 =>
  mz_chk (mz_is h v1 9) <| mz_call (fn_X10_typeOf h v1 x1) fun v2 h =>
  if v2 = none then
    mz_ret (-1) h
  else
    if x2 < 0 then
      mz_ret (-2) h
    else
      mz_op (mz_fR h v2 8 9) fun v3 =>
      mz_op (mz_len h v3 0) fun v4 =>
      if x2 < v4 then
        if x2 = 1 then
          mz_chk (mz_is h v2 8) <| mz_call (fn_X9_isPlainOrRecord h v2) fun v5 h =>
          if v5 = 0 then
            fn_X11_tally_b66 h a0
          else
            fn_X11_tally_b52 h a0 x2 x3 v2
        else
          fn_X11_tally_b52 h a0 x2 x3 v2
      else
        mz_ret (-2) h
set_option maxHeartbeats 4000000 in
set_option maxRecDepth 100000 in
theorem pf_X11_tally_b0 (r : Int32) (Y : mz_Y p g RX11 cX11_tally 5 (some .int) "tally" (mz_AF h0) s m args meth c) (h : mz_H) (a0 : (Option Nat)) (x1 : Int32) (x2 : Int32) (x3 : Int32) (dc ds : Nat) (hr : fn_X11_tally h a0 x1 x2 x3 = some (r, hf, dc, ds)) : mz_Go l g p e s m args below meth c 1 21 DC DS h0 (some (Value.int r)) hf 5 0 [(0, false, va_rf a0), (1, false, .int x1), (2, false, .int x2), (3, false, .int x3)] [] h dc ds := by
  unfold fn_X11_tally at hr
  intro H locs cells slots ls hH hS hl hc hs
  have X := Y.1
  refine mz_aload_n X dX11_tally_0 rfl (mz_at hl 0 rfl) ?_
  refine lv_iconst (v := 0) X.1 X.2.1 dX11_tally_1 (by decide) ?_
  refine mz_put X hH hS fp_RX11_185 dX11_tally_2 rfl rfl hr (fun h H locs hr hH hS => ?_)
  refine mz_aload_n X dX11_tally_5 rfl (mz_at hl 0 rfl) ?_
  refine mz_getR X hH fl_RX11_10 dX11_tally_6 hr (fun v1 hr => ?_)
  refine lv_iload_n X.1 X.2.1 dX11_tally_9 rfl (mz_at hl 1 rfl) ?_
  refine mz_kV va_rf X hH hS hl.1.1 [.int x1] [] hr (ct_X10_typeOf l g h v1 x1) mb_RX11_48 rfl im_X10_typeOf rfl (Nat.le_of_ble_eq_true rfl) ⟨Nat.le_of_ble_eq_true rfl, Nat.le_of_ble_eq_true rfl⟩ hc hs dX11_tally_10 rfl (fun v2 h H locs cells slots dc ds hr hH hS hc hs => ?_)
  refine mz_astore X [(4, false, va_rf v2), (0, false, va_rf a0), (1, false, .int x1), (2, false, .int x2), (3, false, .int x3)] dX11_tally_13 hl (by decide) rfl (fun ls hl => ?_)
  refine mz_aload X dX11_tally_15 (mz_at hl 0 rfl) ?_
  refine mz_ifnonnull X 22 dX11_tally_17 (by decide) hr (fun hr => ?_) (fun hr => ?_)
  · refine lv_iload_n X.1 X.2.1 dX11_tally_22 rfl (mz_at hl 3 rfl) ?_
    refine mz_if_lt X 36 dX11_tally_23 (by decide) hr (fun hr => ?_) (fun hr => ?_)
    · refine lv_bipush (v := (-2)) X.1 X.2.1 dX11_tally_36 (by decide) ?_
      exact mz_iret Y dX11_tally_38 hH hS hc hs hr
    · refine lv_iload_n X.1 X.2.1 dX11_tally_26 rfl (mz_at hl 3 rfl) ?_
      refine mz_aload X dX11_tally_27 (mz_at hl 0 rfl) ?_
      refine mz_getR X hH fl_RX11_188 dX11_tally_29 hr (fun v3 hr => ?_)
      refine mz_alen (t := 0) X hH (by decide) dX11_tally_32 hr (fun v4 hr => ?_)
      refine mz_icmp_lt X 39 dX11_tally_33 (by decide) hr (fun hr => ?_) (fun hr => ?_)
      · refine lv_iload_n X.1 X.2.1 dX11_tally_39 rfl (mz_at hl 3 rfl) ?_
        refine lv_iconst (v := 1) X.1 X.2.1 dX11_tally_40 (by decide) ?_
        refine mz_icmp_ne X 52 dX11_tally_41 (by decide) hr (fun hr => ?_) (fun hr => ?_)
        · exact pf_X11_tally_b52 r Y h a0 x2 x3 v2 _ _ hr H locs cells slots ls hH hS (mz_sub hl [1, 3, 4, 0] rfl) hc hs
        · refine mz_aload X dX11_tally_44 (mz_at hl 0 rfl) ?_
          refine mz_kV Value.int X hH hS hl.1.1 [] [] hr (ct_X9_isPlainOrRecord l g h v2) mb_RX11_191 rfl im_X9_isPlainOrRecord rfl (Nat.le_of_ble_eq_true rfl) ⟨Nat.le_of_ble_eq_true rfl, Nat.le_of_ble_eq_true rfl⟩ hc hs dX11_tally_46 rfl (fun v5 h H locs cells slots dc ds hr hH hS hc hs => ?_)
          refine mz_if_eq X 66 dX11_tally_49 (by decide) hr (fun hr => ?_) (fun hr => ?_)
          · exact pf_X11_tally_b66 r Y h a0 _ _ hr H locs cells slots ls hH hS (mz_sub hl [1] rfl) hc hs
          · exact pf_X11_tally_b52 r Y h a0 x2 x3 v2 _ _ hr H locs cells slots ls hH hS (mz_sub hl [1, 3, 4, 0] rfl) hc hs
      · refine lv_bipush (v := (-2)) X.1 X.2.1 dX11_tally_36 (by decide) ?_
        exact mz_iret Y dX11_tally_38 hH hS hc hs hr
  · refine lv_iconst (v := (-1)) X.1 X.2.1 dX11_tally_20 (by decide) ?_
    exact mz_iret Y dX11_tally_21 hH hS hc hs hr
set_option maxRecDepth 100000 in
theorem ct_X11_tally (l : Launch) (g : mz_G) (h : mz_H) (a0 : (Option Nat)) (x1 : Int32) (x2 : Int32) (x3 : Int32) (r : Int32) (hf : mz_H) (k n : Nat) (hr : fn_X11_tally h a0 x1 x2 x3 = some (r, hf, k, n)) : mz_C l g yX11_tally cX11_tally 5 (some .int) 1 21 [va_rf a0, .int x1, .int x2, .int x3] h (some (Value.int r)) hf k n := by
  refine mz_met (as := [(false, va_rf a0), (false, .int x1), (false, .int x2), (false, .int x3)]) (plainFor_of_name (by decide)) (mz_c1 (mz_cat_rf _) (mz_c1 rfl (mz_c1 rfl (mz_c1 rfl mz_c0)))) (Nat.le_of_ble_eq_true rfl) ?_
  intro p e s m args below meth c Y
  exact pf_X11_tally_b0 r Y h a0 x1 x2 x3 _ _ hr
theorem dX11_offer_0 : decode cX11_offer 0 = .ok (.aload_n 0, 1) := by decide +kernel
theorem dX11_offer_1 : decode cX11_offer 1 = .ok (.iconst 0, 1) := by decide +kernel
theorem dX11_offer_2 : decode cX11_offer 2 = .ok (.putfield 185, 3) := by decide +kernel
theorem dX11_offer_5 : decode cX11_offer 5 = .ok (.aload_n 0, 1) := by decide +kernel
theorem dX11_offer_6 : decode cX11_offer 6 = .ok (.getfield 10, 3) := by decide +kernel
theorem dX11_offer_9 : decode cX11_offer 9 = .ok (.iload_n 1, 1) := by decide +kernel
theorem dX11_offer_10 : decode cX11_offer 10 = .ok (.invokevirtual 48, 3) := by decide +kernel
theorem dX11_offer_13 : decode cX11_offer 13 = .ok (.astore_n 2, 1) := by decide +kernel
theorem dX11_offer_14 : decode cX11_offer 14 = .ok (.aload_n 2, 1) := by decide +kernel
theorem dX11_offer_15 : decode cX11_offer 15 = .ok (.ifnonnull 5, 3) := by decide +kernel
theorem dX11_offer_18 : decode cX11_offer 18 = .ok (.iconst (-1), 1) := by decide +kernel
theorem dX11_offer_19 : decode cX11_offer 19 = .ok (.ireturn, 1) := by decide +kernel
theorem dX11_offer_20 : decode cX11_offer 20 = .ok (.aload_n 2, 1) := by decide +kernel
theorem dX11_offer_21 : decode cX11_offer 21 = .ok (.invokevirtual 191, 3) := by decide +kernel
theorem dX11_offer_24 : decode cX11_offer 24 = .ok (.ifCond .ne 9, 3) := by decide +kernel
theorem dX11_offer_27 : decode cX11_offer 27 = .ok (.aload_n 0, 1) := by decide +kernel
theorem dX11_offer_28 : decode cX11_offer 28 = .ok (.iconst 2, 1) := by decide +kernel
theorem dX11_offer_29 : decode cX11_offer 29 = .ok (.invokevirtual 195, 3) := by decide +kernel
theorem dX11_offer_32 : decode cX11_offer 32 = .ok (.ireturn, 1) := by decide +kernel
theorem dX11_offer_33 : decode cX11_offer 33 = .ok (.aload_n 2, 1) := by decide +kernel
theorem dX11_offer_34 : decode cX11_offer 34 = .ok (.getfield 72, 3) := by decide +kernel
theorem dX11_offer_37 : decode cX11_offer 37 = .ok (.iconst 3, 1) := by decide +kernel
theorem dX11_offer_38 : decode cX11_offer 38 = .ok (.if_icmp .ne 12, 3) := by decide +kernel
theorem dX11_offer_41 : decode cX11_offer 41 = .ok (.iconst 2, 1) := by decide +kernel
theorem dX11_offer_42 : decode cX11_offer 42 = .ok (.aload_n 2, 1) := by decide +kernel
theorem dX11_offer_43 : decode cX11_offer 43 = .ok (.invokevirtual 134, 3) := by decide +kernel
theorem dX11_offer_46 : decode cX11_offer 46 = .ok (.imul, 1) := by decide +kernel
theorem dX11_offer_47 : decode cX11_offer 47 = .ok (.goto 12, 3) := by decide +kernel
theorem dX11_offer_50 : decode cX11_offer 50 = .ok (.aload_n 2, 1) := by decide +kernel
theorem dX11_offer_51 : decode cX11_offer 51 = .ok (.invokevirtual 134, 3) := by decide +kernel
theorem dX11_offer_54 : decode cX11_offer 54 = .ok (.aload_n 2, 1) := by decide +kernel
theorem dX11_offer_55 : decode cX11_offer 55 = .ok (.getfield 112, 3) := by decide +kernel
theorem dX11_offer_58 : decode cX11_offer 58 = .ok (.iadd, 1) := by decide +kernel
theorem dX11_offer_59 : decode cX11_offer 59 = .ok (.ireturn, 1) := by decide +kernel
def fn_X11_offer (h : mz_H) (a0 : (Option Nat)) (x1 : Int32) : mz_Res Int32 :=
  mz_op (mz_pF h a0 10 8 (Value.int 0)) fun h =>
  mz_op (mz_fR h a0 10 0) fun v1 =>
  mz_chk (mz_is h v1 9) <| mz_call (fn_X10_typeOf h v1 x1) fun v2 h =>
  if v2 = none then
    mz_ret (-1) h
  else
    mz_chk (mz_is h v2 8) <| mz_call (fn_X9_isPlainOrRecord h v2) fun v3 h =>
    if v3 = 0 then
      mz_chk (mz_is h a0 10) <| mz_call (fn_X11_comeTo h a0 2) fun v8 h =>
      mz_ret v8 h
    else
      mz_op (mz_fI h v2 8 0) fun v4 =>
      if v4 = 3 then
        mz_chk (mz_is h v2 8) <| mz_call (fn_X9_cost h v2) fun v7 h =>
        mz_ret (2 * v7) h
      else
        mz_chk (mz_is h v2 8) <| mz_call (fn_X9_cost h v2) fun v5 h =>
        mz_op (mz_fI h v2 8 8) fun v6 =>
        mz_ret (v5 + v6) h
set_option maxHeartbeats 4000000 in
set_option maxRecDepth 100000 in
theorem pf_X11_offer_b0 (r : Int32) (Y : mz_Y p g RX11 cX11_offer 3 (some .int) "offer" (mz_AF h0) s m args meth c) (h : mz_H) (a0 : (Option Nat)) (x1 : Int32) (dc ds : Nat) (hr : fn_X11_offer h a0 x1 = some (r, hf, dc, ds)) : mz_Go l g p e s m args below meth c 1 21 DC DS h0 (some (Value.int r)) hf 3 0 [(0, false, va_rf a0), (1, false, .int x1)] [] h dc ds := by
  unfold fn_X11_offer at hr
  intro H locs cells slots ls hH hS hl hc hs
  have X := Y.1
  refine mz_aload_n X dX11_offer_0 rfl (mz_at hl 0 rfl) ?_
  refine lv_iconst (v := 0) X.1 X.2.1 dX11_offer_1 (by decide) ?_
  refine mz_put X hH hS fp_RX11_185 dX11_offer_2 rfl rfl hr (fun h H locs hr hH hS => ?_)
  refine mz_aload_n X dX11_offer_5 rfl (mz_at hl 0 rfl) ?_
  refine mz_getR X hH fl_RX11_10 dX11_offer_6 hr (fun v1 hr => ?_)
  refine lv_iload_n X.1 X.2.1 dX11_offer_9 rfl (mz_at hl 1 rfl) ?_
  refine mz_kV va_rf X hH hS hl.1.1 [.int x1] [] hr (ct_X10_typeOf l g h v1 x1) mb_RX11_48 rfl im_X10_typeOf rfl (Nat.le_of_ble_eq_true rfl) ⟨Nat.le_of_ble_eq_true rfl, Nat.le_of_ble_eq_true rfl⟩ hc hs dX11_offer_10 rfl (fun v2 h H locs cells slots dc ds hr hH hS hc hs => ?_)
  refine mz_astore_n X [(2, false, va_rf v2), (0, false, va_rf a0), (1, false, .int x1)] dX11_offer_13 rfl hl (by decide) rfl (fun ls hl => ?_)
  refine mz_aload_n X dX11_offer_14 rfl (mz_at hl 0 rfl) ?_
  refine mz_ifnonnull X 20 dX11_offer_15 (by decide) hr (fun hr => ?_) (fun hr => ?_)
  · refine mz_aload_n X dX11_offer_20 rfl (mz_at hl 0 rfl) ?_
    refine mz_kV Value.int X hH hS hl.1.1 [] [] hr (ct_X9_isPlainOrRecord l g h v2) mb_RX11_191 rfl im_X9_isPlainOrRecord rfl (Nat.le_of_ble_eq_true rfl) ⟨Nat.le_of_ble_eq_true rfl, Nat.le_of_ble_eq_true rfl⟩ hc hs dX11_offer_21 rfl (fun v3 h H locs cells slots dc ds hr hH hS hc hs => ?_)
    refine mz_if_ne X 33 dX11_offer_24 (by decide) hr (fun hr => ?_) (fun hr => ?_)
    · refine mz_aload_n X dX11_offer_33 rfl (mz_at hl 0 rfl) ?_
      refine mz_getI X hH fl_RX11_72 dX11_offer_34 hr (fun v4 hr => ?_)
      refine lv_iconst (v := 3) X.1 X.2.1 dX11_offer_37 (by decide) ?_
      refine mz_icmp_ne X 50 dX11_offer_38 (by decide) hr (fun hr => ?_) (fun hr => ?_)
      · refine mz_aload_n X dX11_offer_50 rfl (mz_at hl 0 rfl) ?_
        refine mz_kV Value.int X hH hS hl.1.1 [] [] hr (ct_X9_cost l g h v2) mb_RX11_134 rfl im_X9_cost rfl (Nat.le_of_ble_eq_true rfl) ⟨Nat.le_of_ble_eq_true rfl, Nat.le_of_ble_eq_true rfl⟩ hc hs dX11_offer_51 rfl (fun v5 h H locs cells slots dc ds hr hH hS hc hs => ?_)
        refine mz_aload_n X dX11_offer_54 rfl (mz_at hl 0 rfl) ?_
        refine mz_getI X hH fl_RX11_112 dX11_offer_55 hr (fun v6 hr => ?_)
        refine lv_iadd X.1 X.2.1 dX11_offer_58 ?_
        exact mz_iret Y dX11_offer_59 hH hS hc hs hr
      · refine lv_iconst (v := 2) X.1 X.2.1 dX11_offer_41 (by decide) ?_
        refine mz_aload_n X dX11_offer_42 rfl (mz_at hl 0 rfl) ?_
        refine mz_kV Value.int X hH hS hl.1.1 [] [.int 2] hr (ct_X9_cost l g h v2) mb_RX11_134 rfl im_X9_cost rfl (Nat.le_of_ble_eq_true rfl) ⟨Nat.le_of_ble_eq_true rfl, Nat.le_of_ble_eq_true rfl⟩ hc hs dX11_offer_43 rfl (fun v7 h H locs cells slots dc ds hr hH hS hc hs => ?_)
        refine lv_imul X.1 X.2.1 dX11_offer_46 ?_
        refine lv_goto (tgt := 59) X.1 X.2.1 dX11_offer_47 (by decide) ?_
        exact mz_iret Y dX11_offer_59 hH hS hc hs hr
    · refine mz_aload_n X dX11_offer_27 rfl (mz_at hl 1 rfl) ?_
      refine lv_iconst (v := 2) X.1 X.2.1 dX11_offer_28 (by decide) ?_
      refine mz_kV Value.int X hH hS hl.1.1 [.int 2] [] hr (ct_X11_comeTo l g h a0 2) mb_RX11_195 rfl im_X11_comeTo rfl (Nat.le_of_ble_eq_true rfl) ⟨Nat.le_of_ble_eq_true rfl, Nat.le_of_ble_eq_true rfl⟩ hc hs dX11_offer_29 rfl (fun v8 h H locs cells slots dc ds hr hH hS hc hs => ?_)
      exact mz_iret Y dX11_offer_32 hH hS hc hs hr
  · refine lv_iconst (v := (-1)) X.1 X.2.1 dX11_offer_18 (by decide) ?_
    exact mz_iret Y dX11_offer_19 hH hS hc hs hr
set_option maxRecDepth 100000 in
theorem ct_X11_offer (l : Launch) (g : mz_G) (h : mz_H) (a0 : (Option Nat)) (x1 : Int32) (r : Int32) (hf : mz_H) (k n : Nat) (hr : fn_X11_offer h a0 x1 = some (r, hf, k, n)) : mz_C l g yX11_offer cX11_offer 3 (some .int) 1 21 [va_rf a0, .int x1] h (some (Value.int r)) hf k n := by
  refine mz_met (as := [(false, va_rf a0), (false, .int x1)]) (plainFor_of_name (by decide)) (mz_c1 (mz_cat_rf _) (mz_c1 rfl mz_c0)) (Nat.le_of_ble_eq_true rfl) ?_
  intro p e s m args below meth c Y
  exact pf_X11_offer_b0 r Y h a0 x1 _ _ hr
theorem dX11_hold_0 : decode cX11_hold 0 = .ok (.aload_n 0, 1) := by decide +kernel
theorem dX11_hold_1 : decode cX11_hold 1 = .ok (.getfield 10, 3) := by decide +kernel
theorem dX11_hold_4 : decode cX11_hold 4 = .ok (.iload_n 1, 1) := by decide +kernel
theorem dX11_hold_5 : decode cX11_hold 5 = .ok (.invokevirtual 48, 3) := by decide +kernel
theorem dX11_hold_8 : decode cX11_hold 8 = .ok (.astore 4, 2) := by decide +kernel
theorem dX11_hold_10 : decode cX11_hold 10 = .ok (.aload 4, 2) := by decide +kernel
theorem dX11_hold_12 : decode cX11_hold 12 = .ok (.ifnonnull 5, 3) := by decide +kernel
theorem dX11_hold_15 : decode cX11_hold 15 = .ok (.iconst (-1), 1) := by decide +kernel
theorem dX11_hold_16 : decode cX11_hold 16 = .ok (.ireturn, 1) := by decide +kernel
theorem dX11_hold_17 : decode cX11_hold 17 = .ok (.iload_n 2, 1) := by decide +kernel
theorem dX11_hold_18 : decode cX11_hold 18 = .ok (.iconst 1, 1) := by decide +kernel
theorem dX11_hold_19 : decode cX11_hold 19 = .ok (.if_icmp .lt 9, 3) := by decide +kernel
theorem dX11_hold_22 : decode cX11_hold 22 = .ok (.iload_n 2, 1) := by decide +kernel
theorem dX11_hold_23 : decode cX11_hold 23 = .ok (.bipush 20, 2) := by decide +kernel
theorem dX11_hold_25 : decode cX11_hold 25 = .ok (.if_icmp .le 6, 3) := by decide +kernel
theorem dX11_hold_28 : decode cX11_hold 28 = .ok (.bipush (-2), 2) := by decide +kernel
theorem dX11_hold_30 : decode cX11_hold 30 = .ok (.ireturn, 1) := by decide +kernel
theorem dX11_hold_31 : decode cX11_hold 31 = .ok (.aload 4, 2) := by decide +kernel
theorem dX11_hold_33 : decode cX11_hold 33 = .ok (.getfield 188, 3) := by decide +kernel
theorem dX11_hold_36 : decode cX11_hold 36 = .ok (.iconst 0, 1) := by decide +kernel
theorem dX11_hold_37 : decode cX11_hold 37 = .ok (.dup2, 1) := by decide +kernel
theorem dX11_hold_38 : decode cX11_hold 38 = .ok (.iaload, 1) := by decide +kernel
theorem dX11_hold_39 : decode cX11_hold 39 = .ok (.iload_n 2, 1) := by decide +kernel
theorem dX11_hold_40 : decode cX11_hold 40 = .ok (.iload_n 3, 1) := by decide +kernel
theorem dX11_hold_41 : decode cX11_hold 41 = .ok (.imul, 1) := by decide +kernel
theorem dX11_hold_42 : decode cX11_hold 42 = .ok (.iadd, 1) := by decide +kernel
theorem dX11_hold_43 : decode cX11_hold 43 = .ok (.iastore, 1) := by decide +kernel
theorem dX11_hold_44 : decode cX11_hold 44 = .ok (.aload 4, 2) := by decide +kernel
theorem dX11_hold_46 : decode cX11_hold 46 = .ok (.getfield 188, 3) := by decide +kernel
theorem dX11_hold_49 : decode cX11_hold 49 = .ok (.iconst 0, 1) := by decide +kernel
theorem dX11_hold_50 : decode cX11_hold 50 = .ok (.iaload, 1) := by decide +kernel
theorem dX11_hold_51 : decode cX11_hold 51 = .ok (.ireturn, 1) := by decide +kernel
def fn_X11_hold (h : mz_H) (a0 : (Option Nat)) (x1 : Int32) (x2 : Int32) (x3 : Int32) : mz_Res Int32 :=
  mz_op (mz_fR h a0 10 0) fun v1 =>
  mz_chk (mz_is h v1 9) <| mz_call (fn_X10_typeOf h v1 x1) fun v2 h =>
  if v2 = none then
    mz_ret (-1) h
  else
    if x2 < 1 then
      mz_ret (-2) h
    else
      if x2 ≤ 20 then
        mz_op (mz_fR h v2 8 9) fun v3 =>
        mz_op (mz_aI h v3 0 0) fun v4 =>
        mz_op (mz_sI h v3 0 0 (v4 + (x2 * x3))) fun h =>
        mz_op (mz_fR h v2 8 9) fun v5 =>
        mz_op (mz_aI h v5 0 0) fun v6 =>
        mz_ret v6 h
      else
        mz_ret (-2) h
set_option maxHeartbeats 4000000 in
set_option maxRecDepth 100000 in
theorem pf_X11_hold_b0 (r : Int32) (Y : mz_Y p g RX11 cX11_hold 5 (some .int) "hold" (mz_AF h0) s m args meth c) (h : mz_H) (a0 : (Option Nat)) (x1 : Int32) (x2 : Int32) (x3 : Int32) (dc ds : Nat) (hr : fn_X11_hold h a0 x1 x2 x3 = some (r, hf, dc, ds)) : mz_Go l g p e s m args below meth c 1 21 DC DS h0 (some (Value.int r)) hf 5 0 [(0, false, va_rf a0), (1, false, .int x1), (2, false, .int x2), (3, false, .int x3)] [] h dc ds := by
  unfold fn_X11_hold at hr
  intro H locs cells slots ls hH hS hl hc hs
  have X := Y.1
  refine mz_aload_n X dX11_hold_0 rfl (mz_at hl 0 rfl) ?_
  refine mz_getR X hH fl_RX11_10 dX11_hold_1 hr (fun v1 hr => ?_)
  refine lv_iload_n X.1 X.2.1 dX11_hold_4 rfl (mz_at hl 1 rfl) ?_
  refine mz_kV va_rf X hH hS hl.1.1 [.int x1] [] hr (ct_X10_typeOf l g h v1 x1) mb_RX11_48 rfl im_X10_typeOf rfl (Nat.le_of_ble_eq_true rfl) ⟨Nat.le_of_ble_eq_true rfl, Nat.le_of_ble_eq_true rfl⟩ hc hs dX11_hold_5 rfl (fun v2 h H locs cells slots dc ds hr hH hS hc hs => ?_)
  refine mz_astore X [(4, false, va_rf v2), (0, false, va_rf a0), (1, false, .int x1), (2, false, .int x2), (3, false, .int x3)] dX11_hold_8 hl (by decide) rfl (fun ls hl => ?_)
  refine mz_aload X dX11_hold_10 (mz_at hl 0 rfl) ?_
  refine mz_ifnonnull X 17 dX11_hold_12 (by decide) hr (fun hr => ?_) (fun hr => ?_)
  · refine lv_iload_n X.1 X.2.1 dX11_hold_17 rfl (mz_at hl 3 rfl) ?_
    refine lv_iconst (v := 1) X.1 X.2.1 dX11_hold_18 (by decide) ?_
    refine mz_icmp_lt X 28 dX11_hold_19 (by decide) hr (fun hr => ?_) (fun hr => ?_)
    · refine lv_bipush (v := (-2)) X.1 X.2.1 dX11_hold_28 (by decide) ?_
      exact mz_iret Y dX11_hold_30 hH hS hc hs hr
    · refine lv_iload_n X.1 X.2.1 dX11_hold_22 rfl (mz_at hl 3 rfl) ?_
      refine lv_bipush (v := 20) X.1 X.2.1 dX11_hold_23 (by decide) ?_
      refine mz_icmp_le X 31 dX11_hold_25 (by decide) hr (fun hr => ?_) (fun hr => ?_)
      · refine mz_aload X dX11_hold_31 (mz_at hl 0 rfl) ?_
        refine mz_getR X hH fl_RX11_188 dX11_hold_33 hr (fun v3 hr => ?_)
        refine lv_iconst (v := 0) X.1 X.2.1 dX11_hold_36 (by decide) ?_
        refine mz_dup2 X dX11_hold_37 ?_
        refine mz_iald X hH dX11_hold_38 hr (fun v4 hr => ?_)
        refine lv_iload_n X.1 X.2.1 dX11_hold_39 rfl (mz_at hl 3 rfl) ?_
        refine lv_iload_n X.1 X.2.1 dX11_hold_40 rfl (mz_at hl 4 rfl) ?_
        refine lv_imul X.1 X.2.1 dX11_hold_41 ?_
        refine lv_iadd X.1 X.2.1 dX11_hold_42 ?_
        refine mz_iast X hH hS dX11_hold_43 hr (fun h H locs hr hH hS => ?_)
        refine mz_aload X dX11_hold_44 (mz_at hl 0 rfl) ?_
        refine mz_getR X hH fl_RX11_188 dX11_hold_46 hr (fun v5 hr => ?_)
        refine lv_iconst (v := 0) X.1 X.2.1 dX11_hold_49 (by decide) ?_
        refine mz_iald X hH dX11_hold_50 hr (fun v6 hr => ?_)
        exact mz_iret Y dX11_hold_51 hH hS hc hs hr
      · refine lv_bipush (v := (-2)) X.1 X.2.1 dX11_hold_28 (by decide) ?_
        exact mz_iret Y dX11_hold_30 hH hS hc hs hr
  · refine lv_iconst (v := (-1)) X.1 X.2.1 dX11_hold_15 (by decide) ?_
    exact mz_iret Y dX11_hold_16 hH hS hc hs hr
set_option maxRecDepth 100000 in
theorem ct_X11_hold (l : Launch) (g : mz_G) (h : mz_H) (a0 : (Option Nat)) (x1 : Int32) (x2 : Int32) (x3 : Int32) (r : Int32) (hf : mz_H) (k n : Nat) (hr : fn_X11_hold h a0 x1 x2 x3 = some (r, hf, k, n)) : mz_C l g yX11_hold cX11_hold 5 (some .int) 1 21 [va_rf a0, .int x1, .int x2, .int x3] h (some (Value.int r)) hf k n := by
  refine mz_met (as := [(false, va_rf a0), (false, .int x1), (false, .int x2), (false, .int x3)]) (plainFor_of_name (by decide)) (mz_c1 (mz_cat_rf _) (mz_c1 rfl (mz_c1 rfl (mz_c1 rfl mz_c0)))) (Nat.le_of_ble_eq_true rfl) ?_
  intro p e s m args below meth c Y
  exact pf_X11_hold_b0 r Y h a0 x1 x2 x3 _ _ hr
theorem dX11_addThing_0 : decode cX11_addThing 0 = .ok (.aload_n 0, 1) := by decide +kernel
theorem dX11_addThing_1 : decode cX11_addThing 1 = .ok (.getfield 198, 3) := by decide +kernel
theorem dX11_addThing_4 : decode cX11_addThing 4 = .ok (.bipush 60, 2) := by decide +kernel
theorem dX11_addThing_6 : decode cX11_addThing 6 = .ok (.if_icmp .lt 6, 3) := by decide +kernel
theorem dX11_addThing_9 : decode cX11_addThing 9 = .ok (.bipush (-4), 2) := by decide +kernel
theorem dX11_addThing_11 : decode cX11_addThing 11 = .ok (.ireturn, 1) := by decide +kernel
theorem dX11_addThing_12 : decode cX11_addThing 12 = .ok (.aload_n 0, 1) := by decide +kernel
theorem dX11_addThing_13 : decode cX11_addThing 13 = .ok (.getfield 28, 3) := by decide +kernel
theorem dX11_addThing_16 : decode cX11_addThing 16 = .ok (.aload_n 0, 1) := by decide +kernel
theorem dX11_addThing_17 : decode cX11_addThing 17 = .ok (.getfield 198, 3) := by decide +kernel
theorem dX11_addThing_20 : decode cX11_addThing 20 = .ok (.aload_n 1, 1) := by decide +kernel
theorem dX11_addThing_21 : decode cX11_addThing 21 = .ok (.aastore, 1) := by decide +kernel
theorem dX11_addThing_22 : decode cX11_addThing 22 = .ok (.aload_n 0, 1) := by decide +kernel
theorem dX11_addThing_23 : decode cX11_addThing 23 = .ok (.dup, 1) := by decide +kernel
theorem dX11_addThing_24 : decode cX11_addThing 24 = .ok (.getfield 198, 3) := by decide +kernel
theorem dX11_addThing_27 : decode cX11_addThing 27 = .ok (.iconst 1, 1) := by decide +kernel
theorem dX11_addThing_28 : decode cX11_addThing 28 = .ok (.iadd, 1) := by decide +kernel
theorem dX11_addThing_29 : decode cX11_addThing 29 = .ok (.putfield 198, 3) := by decide +kernel
theorem dX11_addThing_32 : decode cX11_addThing 32 = .ok (.aload_n 0, 1) := by decide +kernel
theorem dX11_addThing_33 : decode cX11_addThing 33 = .ok (.getfield 198, 3) := by decide +kernel
theorem dX11_addThing_36 : decode cX11_addThing 36 = .ok (.iconst 1, 1) := by decide +kernel
theorem dX11_addThing_37 : decode cX11_addThing 37 = .ok (.isub, 1) := by decide +kernel
theorem dX11_addThing_38 : decode cX11_addThing 38 = .ok (.ireturn, 1) := by decide +kernel
def fn_X11_addThing (h : mz_H) (a0 : (Option Nat)) (a1 : (Option Nat)) : mz_Res Int32 :=
  mz_op (mz_fI h a0 10 4) fun v1 =>
  if v1 < 60 then
    mz_op (mz_fR h a0 10 3) fun v2 =>
    mz_op (mz_fI h a0 10 4) fun v3 =>
    mz_op (mz_sR h v2 17 v3 a1) fun h =>
    mz_op (mz_fI h a0 10 4) fun v4 =>
    mz_op (mz_pF h a0 10 4 (Value.int (v4 + 1))) fun h =>
    mz_op (mz_fI h a0 10 4) fun v5 =>
    mz_ret (v5 - 1) h
  else
    mz_ret (-4) h
set_option maxHeartbeats 4000000 in
set_option maxRecDepth 100000 in
theorem pf_X11_addThing_b0 (r : Int32) (Y : mz_Y p g RX11 cX11_addThing 2 (some .int) "addThing" (mz_AF h0) s m args meth c) (h : mz_H) (a0 : (Option Nat)) (a1 : (Option Nat)) (dc ds : Nat) (hr : fn_X11_addThing h a0 a1 = some (r, hf, dc, ds)) : mz_Go l g p e s m args below meth c 0 0 DC DS h0 (some (Value.int r)) hf 2 0 [(0, false, va_rf a0), (1, false, va_rf a1)] [] h dc ds := by
  unfold fn_X11_addThing at hr
  intro H locs cells slots ls hH hS hl hc hs
  have X := Y.1
  refine mz_aload_n X dX11_addThing_0 rfl (mz_at hl 0 rfl) ?_
  refine mz_getI X hH fl_RX11_198 dX11_addThing_1 hr (fun v1 hr => ?_)
  refine lv_bipush (v := 60) X.1 X.2.1 dX11_addThing_4 (by decide) ?_
  refine mz_icmp_lt X 12 dX11_addThing_6 (by decide) hr (fun hr => ?_) (fun hr => ?_)
  · refine mz_aload_n X dX11_addThing_12 rfl (mz_at hl 0 rfl) ?_
    refine mz_getR X hH fl_RX11_28 dX11_addThing_13 hr (fun v2 hr => ?_)
    refine mz_aload_n X dX11_addThing_16 rfl (mz_at hl 0 rfl) ?_
    refine mz_getI X hH fl_RX11_198 dX11_addThing_17 hr (fun v3 hr => ?_)
    refine mz_aload_n X dX11_addThing_20 rfl (mz_at hl 1 rfl) ?_
    refine mz_aast (t := 17) X hH hS (by decide) rfl rfl dX11_addThing_21 hr (fun h H locs hr hH hS => ?_)
    refine mz_aload_n X dX11_addThing_22 rfl (mz_at hl 0 rfl) ?_
    refine mz_dupR X dX11_addThing_23 ?_
    refine mz_getI X hH fl_RX11_198 dX11_addThing_24 hr (fun v4 hr => ?_)
    refine lv_iconst (v := 1) X.1 X.2.1 dX11_addThing_27 (by decide) ?_
    refine lv_iadd X.1 X.2.1 dX11_addThing_28 ?_
    refine mz_put X hH hS fp_RX11_198 dX11_addThing_29 rfl rfl hr (fun h H locs hr hH hS => ?_)
    refine mz_aload_n X dX11_addThing_32 rfl (mz_at hl 0 rfl) ?_
    refine mz_getI X hH fl_RX11_198 dX11_addThing_33 hr (fun v5 hr => ?_)
    refine lv_iconst (v := 1) X.1 X.2.1 dX11_addThing_36 (by decide) ?_
    refine lv_isub X.1 X.2.1 dX11_addThing_37 ?_
    exact mz_iret Y dX11_addThing_38 hH hS hc hs hr
  · refine lv_bipush (v := (-4)) X.1 X.2.1 dX11_addThing_9 (by decide) ?_
    exact mz_iret Y dX11_addThing_11 hH hS hc hs hr
set_option maxRecDepth 100000 in
theorem ct_X11_addThing (l : Launch) (g : mz_G) (h : mz_H) (a0 : (Option Nat)) (a1 : (Option Nat)) (r : Int32) (hf : mz_H) (k n : Nat) (hr : fn_X11_addThing h a0 a1 = some (r, hf, k, n)) : mz_C l g yX11_addThing cX11_addThing 2 (some .int) 0 0 [va_rf a0, va_rf a1] h (some (Value.int r)) hf k n := by
  refine mz_met (as := [(false, va_rf a0), (false, va_rf a1)]) (plainFor_of_name (by decide)) (mz_c1 (mz_cat_rf _) (mz_c1 (mz_cat_rf _) mz_c0)) (Nat.le_of_ble_eq_true rfl) ?_
  intro p e s m args below meth c Y
  exact pf_X11_addThing_b0 r Y h a0 a1 _ _ hr
theorem dX11_make_0 : decode cX11_make 0 = .ok (.aload_n 0, 1) := by decide +kernel
theorem dX11_make_1 : decode cX11_make 1 = .ok (.getfield 10, 3) := by decide +kernel
theorem dX11_make_4 : decode cX11_make 4 = .ok (.iload_n 1, 1) := by decide +kernel
theorem dX11_make_5 : decode cX11_make 5 = .ok (.invokevirtual 48, 3) := by decide +kernel
theorem dX11_make_8 : decode cX11_make 8 = .ok (.astore_n 2, 1) := by decide +kernel
theorem dX11_make_9 : decode cX11_make 9 = .ok (.aload_n 2, 1) := by decide +kernel
theorem dX11_make_10 : decode cX11_make 10 = .ok (.ifnonnull 5, 3) := by decide +kernel
theorem dX11_make_13 : decode cX11_make 13 = .ok (.iconst (-1), 1) := by decide +kernel
theorem dX11_make_14 : decode cX11_make 14 = .ok (.ireturn, 1) := by decide +kernel
theorem dX11_make_15 : decode cX11_make 15 = .ok (.aload_n 2, 1) := by decide +kernel
theorem dX11_make_16 : decode cX11_make 16 = .ok (.invokevirtual 191, 3) := by decide +kernel
theorem dX11_make_19 : decode cX11_make 19 = .ok (.ifCond .ne 6, 3) := by decide +kernel
theorem dX11_make_22 : decode cX11_make 22 = .ok (.bipush (-3), 2) := by decide +kernel
theorem dX11_make_24 : decode cX11_make 24 = .ok (.ireturn, 1) := by decide +kernel
theorem dX11_make_25 : decode cX11_make 25 = .ok (.aload_n 0, 1) := by decide +kernel
theorem dX11_make_26 : decode cX11_make 26 = .ok (.getfield 23, 3) := by decide +kernel
theorem dX11_make_29 : decode cX11_make 29 = .ok (.aload_n 0, 1) := by decide +kernel
theorem dX11_make_30 : decode cX11_make 30 = .ok (.getfield 10, 3) := by decide +kernel
theorem dX11_make_33 : decode cX11_make 33 = .ok (.iload_n 1, 1) := by decide +kernel
theorem dX11_make_34 : decode cX11_make 34 = .ok (.invokevirtual 141, 3) := by decide +kernel
theorem dX11_make_37 : decode cX11_make 37 = .ok (.aload_n 0, 1) := by decide +kernel
theorem dX11_make_38 : decode cX11_make 38 = .ok (.getfield 23, 3) := by decide +kernel
theorem dX11_make_41 : decode cX11_make 41 = .ok (.getfield 145, 3) := by decide +kernel
theorem dX11_make_44 : decode cX11_make 44 = .ok (.ifCond .eq 6, 3) := by decide +kernel
theorem dX11_make_47 : decode cX11_make 47 = .ok (.bipush (-3), 2) := by decide +kernel
theorem dX11_make_49 : decode cX11_make 49 = .ok (.ireturn, 1) := by decide +kernel
theorem dX11_make_50 : decode cX11_make 50 = .ok (.aload_n 0, 1) := by decide +kernel
theorem dX11_make_51 : decode cX11_make 51 = .ok (.getfield 198, 3) := by decide +kernel
theorem dX11_make_54 : decode cX11_make 54 = .ok (.bipush 60, 2) := by decide +kernel
theorem dX11_make_56 : decode cX11_make 56 = .ok (.if_icmp .ge 15, 3) := by decide +kernel
theorem dX11_make_59 : decode cX11_make 59 = .ok (.aload_n 0, 1) := by decide +kernel
theorem dX11_make_60 : decode cX11_make 60 = .ok (.getfield 23, 3) := by decide +kernel
theorem dX11_make_63 : decode cX11_make 63 = .ok (.getfield 148, 3) := by decide +kernel
theorem dX11_make_66 : decode cX11_make 66 = .ok (.bipush 16, 2) := by decide +kernel
theorem dX11_make_68 : decode cX11_make 68 = .ok (.if_icmp .le 6, 3) := by decide +kernel
theorem dX11_make_71 : decode cX11_make 71 = .ok (.bipush (-4), 2) := by decide +kernel
theorem dX11_make_73 : decode cX11_make 73 = .ok (.ireturn, 1) := by decide +kernel
theorem dX11_make_74 : decode cX11_make 74 = .ok (.aload_n 0, 1) := by decide +kernel
theorem dX11_make_75 : decode cX11_make 75 = .ok (.getfield 10, 3) := by decide +kernel
theorem dX11_make_78 : decode cX11_make 78 = .ok (.iload_n 1, 1) := by decide +kernel
theorem dX11_make_79 : decode cX11_make 79 = .ok (.invokevirtual 201, 3) := by decide +kernel
theorem dX11_make_82 : decode cX11_make 82 = .ok (.aload_n 0, 1) := by decide +kernel
theorem dX11_make_83 : decode cX11_make 83 = .ok (.new 26, 3) := by decide +kernel
theorem dX11_make_86 : decode cX11_make 86 = .ok (.dup, 1) := by decide +kernel
theorem dX11_make_87 : decode cX11_make 87 = .ok (.iload_n 1, 1) := by decide +kernel
theorem dX11_make_88 : decode cX11_make 88 = .ok (.aload_n 0, 1) := by decide +kernel
theorem dX11_make_89 : decode cX11_make 89 = .ok (.getfield 23, 3) := by decide +kernel
theorem dX11_make_92 : decode cX11_make 92 = .ok (.invokespecial 205, 3) := by decide +kernel
theorem dX11_make_95 : decode cX11_make 95 = .ok (.invokevirtual 208, 3) := by decide +kernel
theorem dX11_make_98 : decode cX11_make 98 = .ok (.ireturn, 1) := by decide +kernel
def fn_X11_make (h : mz_H) (a0 : (Option Nat)) (x1 : Int32) : mz_Res Int32 :=
  mz_op (mz_fR h a0 10 0) fun v1 =>
  mz_chk (mz_is h v1 9) <| mz_call (fn_X10_typeOf h v1 x1) fun v2 h =>
  if v2 = none then
    mz_ret (-1) h
  else
    mz_chk (mz_is h v2 8) <| mz_call (fn_X9_isPlainOrRecord h v2) fun v3 h =>
    if v3 = 0 then
      mz_ret (-3) h
    else
      mz_op (mz_fR h a0 10 2) fun v4 =>
      mz_op (mz_fR h a0 10 0) fun v5 =>
      mz_chk (mz_is h v4 6) <| mz_call (fn_X7_read h v4 v5 x1) fun _ h =>
      mz_op (mz_fR h a0 10 2) fun v6 =>
      mz_op (mz_fI h v6 6 3) fun v7 =>
      if v7 = 0 then
        mz_op (mz_fI h a0 10 4) fun v8 =>
        if 60 ≤ v8 then
          mz_ret (-4) h
        else
          mz_op (mz_fR h a0 10 2) fun v9 =>
          mz_op (mz_fI h v9 6 2) fun v10 =>
          if v10 ≤ 16 then
            mz_op (mz_fR h a0 10 0) fun v11 =>
            mz_chk (mz_is h v11 9) <| mz_call (fn_X10_start h v11 x1) fun _ h =>
            mz_oN h 7 2 [.int 0, .null] fun v12 h =>
            mz_op (mz_fR h a0 10 2) fun v13 =>
            mz_chk (mz_is h v12 7) <| mz_call (fn_X8_init h v12 x1 v13) fun _ h =>
            mz_chk (mz_is h a0 10) <| mz_call (fn_X11_addThing h a0 v12) fun v14 h =>
            mz_ret v14 h
          else
            mz_ret (-4) h
      else
        mz_ret (-3) h
set_option maxHeartbeats 4000000 in
set_option maxRecDepth 100000 in
theorem pf_X11_make_b0 (r : Int32) (Y : mz_Y p g RX11 cX11_make 3 (some .int) "make" (mz_AF h0) s m args meth c) (h : mz_H) (a0 : (Option Nat)) (x1 : Int32) (dc ds : Nat) (hr : fn_X11_make h a0 x1 = some (r, hf, dc, ds)) : mz_Go l g p e s m args below meth c 67 2592 DC DS h0 (some (Value.int r)) hf 3 0 [(0, false, va_rf a0), (1, false, .int x1)] [] h dc ds := by
  unfold fn_X11_make at hr
  intro H locs cells slots ls hH hS hl hc hs
  have X := Y.1
  refine mz_aload_n X dX11_make_0 rfl (mz_at hl 0 rfl) ?_
  refine mz_getR X hH fl_RX11_10 dX11_make_1 hr (fun v1 hr => ?_)
  refine lv_iload_n X.1 X.2.1 dX11_make_4 rfl (mz_at hl 1 rfl) ?_
  refine mz_kV va_rf X hH hS hl.1.1 [.int x1] [] hr (ct_X10_typeOf l g h v1 x1) mb_RX11_48 rfl im_X10_typeOf rfl (Nat.le_of_ble_eq_true rfl) ⟨Nat.le_of_ble_eq_true rfl, Nat.le_of_ble_eq_true rfl⟩ hc hs dX11_make_5 rfl (fun v2 h H locs cells slots dc ds hr hH hS hc hs => ?_)
  refine mz_astore_n X [(2, false, va_rf v2), (0, false, va_rf a0), (1, false, .int x1)] dX11_make_8 rfl hl (by decide) rfl (fun ls hl => ?_)
  refine mz_aload_n X dX11_make_9 rfl (mz_at hl 0 rfl) ?_
  refine mz_ifnonnull X 15 dX11_make_10 (by decide) hr (fun hr => ?_) (fun hr => ?_)
  · refine mz_aload_n X dX11_make_15 rfl (mz_at hl 0 rfl) ?_
    refine mz_kV Value.int X hH hS hl.1.1 [] [] hr (ct_X9_isPlainOrRecord l g h v2) mb_RX11_191 rfl im_X9_isPlainOrRecord rfl (Nat.le_of_ble_eq_true rfl) ⟨Nat.le_of_ble_eq_true rfl, Nat.le_of_ble_eq_true rfl⟩ hc hs dX11_make_16 rfl (fun v3 h H locs cells slots dc ds hr hH hS hc hs => ?_)
    refine mz_if_ne X 25 dX11_make_19 (by decide) hr (fun hr => ?_) (fun hr => ?_)
    · refine mz_aload_n X dX11_make_25 rfl (mz_at hl 1 rfl) ?_
      refine mz_getR X hH fl_RX11_23 dX11_make_26 hr (fun v4 hr => ?_)
      refine mz_aload_n X dX11_make_29 rfl (mz_at hl 1 rfl) ?_
      refine mz_getR X hH fl_RX11_10 dX11_make_30 hr (fun v5 hr => ?_)
      refine lv_iload_n X.1 X.2.1 dX11_make_33 rfl (mz_at hl 2 rfl) ?_
      refine mz_kV0 X hH hS hl.1.1 [va_rf v5, .int x1] [] hr (ct_X7_read l g h v4 v5 x1) mb_RX11_141 rfl im_X7_read rfl (Nat.le_of_ble_eq_true rfl) ⟨Nat.le_of_ble_eq_true rfl, Nat.le_of_ble_eq_true rfl⟩ hc hs dX11_make_34 rfl (fun _ h H locs cells slots dc ds hr hH hS hc hs => ?_)
      refine mz_aload_n X dX11_make_37 rfl (mz_at hl 1 rfl) ?_
      refine mz_getR X hH fl_RX11_23 dX11_make_38 hr (fun v6 hr => ?_)
      refine mz_getI X hH fl_RX11_145 dX11_make_41 hr (fun v7 hr => ?_)
      refine mz_if_eq X 50 dX11_make_44 (by decide) hr (fun hr => ?_) (fun hr => ?_)
      · refine mz_aload_n X dX11_make_50 rfl (mz_at hl 1 rfl) ?_
        refine mz_getI X hH fl_RX11_198 dX11_make_51 hr (fun v8 hr => ?_)
        refine lv_bipush (v := 60) X.1 X.2.1 dX11_make_54 (by decide) ?_
        refine mz_icmp_ge X 71 dX11_make_56 (by decide) hr (fun hr => ?_) (fun hr => ?_)
        · refine lv_bipush (v := (-4)) X.1 X.2.1 dX11_make_71 (by decide) ?_
          exact mz_iret Y dX11_make_73 hH hS hc hs hr
        · refine mz_aload_n X dX11_make_59 rfl (mz_at hl 1 rfl) ?_
          refine mz_getR X hH fl_RX11_23 dX11_make_60 hr (fun v9 hr => ?_)
          refine mz_getI X hH fl_RX11_148 dX11_make_63 hr (fun v10 hr => ?_)
          refine lv_bipush (v := 16) X.1 X.2.1 dX11_make_66 (by decide) ?_
          refine mz_icmp_le X 74 dX11_make_68 (by decide) hr (fun hr => ?_) (fun hr => ?_)
          · refine mz_aload_n X dX11_make_74 rfl (mz_at hl 1 rfl) ?_
            refine mz_getR X hH fl_RX11_10 dX11_make_75 hr (fun v11 hr => ?_)
            refine lv_iload_n X.1 X.2.1 dX11_make_78 rfl (mz_at hl 2 rfl) ?_
            refine mz_kV0 X hH hS hl.1.1 [.int x1] [] hr (ct_X10_start l g h v11 x1) mb_RX11_201 rfl im_X10_start rfl (Nat.le_of_ble_eq_true rfl) ⟨Nat.le_of_ble_eq_true rfl, Nat.le_of_ble_eq_true rfl⟩ hc hs dX11_make_79 rfl (fun _ h H locs cells slots dc ds hr hH hS hc hs => ?_)
            refine mz_aload_n X dX11_make_82 rfl (mz_at hl 1 rfl) ?_
            refine mz_kN X hH hS tyX8 rfl cl_7 tyX8_ok ⟨mz_tb 177 (by decide +kernel) rfl, mz_tb 498 (by decide +kernel) rfl, mz_tb 48 (by decide +kernel) rfl⟩ nw_7 dX11_make_83 hr hc hs (fun v12 h H cells slots dc ds hr hH hS hc hs => ?_)
            refine mz_dupR X dX11_make_86 ?_
            refine lv_iload_n X.1 X.2.1 dX11_make_87 rfl (mz_at hl 2 rfl) ?_
            refine mz_aload_n X dX11_make_88 rfl (mz_at hl 1 rfl) ?_
            refine mz_getR X hH fl_RX11_23 dX11_make_89 hr (fun v13 hr => ?_)
            refine mz_kI X hH hS hl.1.1 [.int x1, va_rf v13] [va_rf v12, va_rf a0] hr (ct_X8_init l g h v12 x1 v13) mb_RX11_205 im_X8_init rfl rfl (Nat.le_of_ble_eq_true rfl) ⟨Nat.le_of_ble_eq_true rfl, Nat.le_of_ble_eq_true rfl⟩ hc hs dX11_make_92 rfl (fun _ h H locs cells slots dc ds hr hH hS hc hs => ?_)
            refine mz_kV Value.int X hH hS hl.1.1 [va_rf v12] [] hr (ct_X11_addThing l g h a0 v12) mb_RX11_208 rfl im_X11_addThing rfl (Nat.le_of_ble_eq_true rfl) ⟨Nat.le_of_ble_eq_true rfl, Nat.le_of_ble_eq_true rfl⟩ hc hs dX11_make_95 rfl (fun v14 h H locs cells slots dc ds hr hH hS hc hs => ?_)
            exact mz_iret Y dX11_make_98 hH hS hc hs hr
          · refine lv_bipush (v := (-4)) X.1 X.2.1 dX11_make_71 (by decide) ?_
            exact mz_iret Y dX11_make_73 hH hS hc hs hr
      · refine lv_bipush (v := (-3)) X.1 X.2.1 dX11_make_47 (by decide) ?_
        exact mz_iret Y dX11_make_49 hH hS hc hs hr
    · refine lv_bipush (v := (-3)) X.1 X.2.1 dX11_make_22 (by decide) ?_
      exact mz_iret Y dX11_make_24 hH hS hc hs hr
  · refine lv_iconst (v := (-1)) X.1 X.2.1 dX11_make_13 (by decide) ?_
    exact mz_iret Y dX11_make_14 hH hS hc hs hr
set_option maxRecDepth 100000 in
theorem ct_X11_make (l : Launch) (g : mz_G) (h : mz_H) (a0 : (Option Nat)) (x1 : Int32) (r : Int32) (hf : mz_H) (k n : Nat) (hr : fn_X11_make h a0 x1 = some (r, hf, k, n)) : mz_C l g yX11_make cX11_make 3 (some .int) 67 2592 [va_rf a0, .int x1] h (some (Value.int r)) hf k n := by
  refine mz_met (as := [(false, va_rf a0), (false, .int x1)]) (plainFor_of_name (by decide)) (mz_c1 (mz_cat_rf _) (mz_c1 rfl mz_c0)) (Nat.le_of_ble_eq_true rfl) ?_
  intro p e s m args below meth c Y
  exact pf_X11_make_b0 r Y h a0 x1 _ _ hr
theorem dX11_thingOf_0 : decode cX11_thingOf 0 = .ok (.iload_n 1, 1) := by decide +kernel
theorem dX11_thingOf_1 : decode cX11_thingOf 1 = .ok (.ifCond .lt 20, 3) := by decide +kernel
theorem dX11_thingOf_4 : decode cX11_thingOf 4 = .ok (.iload_n 1, 1) := by decide +kernel
theorem dX11_thingOf_5 : decode cX11_thingOf 5 = .ok (.aload_n 0, 1) := by decide +kernel
theorem dX11_thingOf_6 : decode cX11_thingOf 6 = .ok (.getfield 198, 3) := by decide +kernel
theorem dX11_thingOf_9 : decode cX11_thingOf 9 = .ok (.if_icmp .ge 12, 3) := by decide +kernel
theorem dX11_thingOf_12 : decode cX11_thingOf 12 = .ok (.aload_n 0, 1) := by decide +kernel
theorem dX11_thingOf_13 : decode cX11_thingOf 13 = .ok (.getfield 28, 3) := by decide +kernel
theorem dX11_thingOf_16 : decode cX11_thingOf 16 = .ok (.iload_n 1, 1) := by decide +kernel
theorem dX11_thingOf_17 : decode cX11_thingOf 17 = .ok (.aaload, 1) := by decide +kernel
theorem dX11_thingOf_18 : decode cX11_thingOf 18 = .ok (.goto 4, 3) := by decide +kernel
theorem dX11_thingOf_21 : decode cX11_thingOf 21 = .ok (.aconst_null, 1) := by decide +kernel
theorem dX11_thingOf_22 : decode cX11_thingOf 22 = .ok (.areturn, 1) := by decide +kernel
def fn_X11_thingOf (h : mz_H) (a0 : (Option Nat)) (x1 : Int32) : mz_Res (Option Nat) :=
  if x1 < 0 then
    mz_ret none h
  else
    mz_op (mz_fI h a0 10 4) fun v1 =>
    if v1 ≤ x1 then
      mz_ret none h
    else
      mz_op (mz_fR h a0 10 3) fun v2 =>
      mz_op (mz_aR h v2 17 x1) fun v3 =>
      mz_ret v3 h
set_option maxHeartbeats 4000000 in
set_option maxRecDepth 100000 in
theorem pf_X11_thingOf_b0 (r : (Option Nat)) (Y : mz_Y p g RX11 cX11_thingOf 2 (some (.object "MemberScanner$Thing")) "thingOf" (mz_AF h0) s m args meth c) (h : mz_H) (a0 : (Option Nat)) (x1 : Int32) (dc ds : Nat) (hr : fn_X11_thingOf h a0 x1 = some (r, hf, dc, ds)) : mz_Go l g p e s m args below meth c 0 0 DC DS h0 (some (va_rf r)) hf 2 0 [(0, false, va_rf a0), (1, false, .int x1)] [] h dc ds := by
  unfold fn_X11_thingOf at hr
  intro H locs cells slots ls hH hS hl hc hs
  have X := Y.1
  refine lv_iload_n X.1 X.2.1 dX11_thingOf_0 rfl (mz_at hl 1 rfl) ?_
  refine mz_if_lt X 21 dX11_thingOf_1 (by decide) hr (fun hr => ?_) (fun hr => ?_)
  · refine mz_null X dX11_thingOf_21 ?_
    exact mz_aret Y dX11_thingOf_22 hH hS hc hs hr
  · refine lv_iload_n X.1 X.2.1 dX11_thingOf_4 rfl (mz_at hl 1 rfl) ?_
    refine mz_aload_n X dX11_thingOf_5 rfl (mz_at hl 0 rfl) ?_
    refine mz_getI X hH fl_RX11_198 dX11_thingOf_6 hr (fun v1 hr => ?_)
    refine mz_icmp_ge X 21 dX11_thingOf_9 (by decide) hr (fun hr => ?_) (fun hr => ?_)
    · refine mz_null X dX11_thingOf_21 ?_
      exact mz_aret Y dX11_thingOf_22 hH hS hc hs hr
    · refine mz_aload_n X dX11_thingOf_12 rfl (mz_at hl 0 rfl) ?_
      refine mz_getR X hH fl_RX11_28 dX11_thingOf_13 hr (fun v2 hr => ?_)
      refine lv_iload_n X.1 X.2.1 dX11_thingOf_16 rfl (mz_at hl 1 rfl) ?_
      refine mz_aald (t := 17) X hH (by decide) rfl dX11_thingOf_17 hr (fun v3 hr => ?_)
      refine lv_goto (tgt := 22) X.1 X.2.1 dX11_thingOf_18 (by decide) ?_
      exact mz_aret Y dX11_thingOf_22 hH hS hc hs hr
set_option maxRecDepth 100000 in
theorem ct_X11_thingOf (l : Launch) (g : mz_G) (h : mz_H) (a0 : (Option Nat)) (x1 : Int32) (r : (Option Nat)) (hf : mz_H) (k n : Nat) (hr : fn_X11_thingOf h a0 x1 = some (r, hf, k, n)) : mz_C l g yX11_thingOf cX11_thingOf 2 (some (.object "MemberScanner$Thing")) 0 0 [va_rf a0, .int x1] h (some (va_rf r)) hf k n := by
  refine mz_met (as := [(false, va_rf a0), (false, .int x1)]) (plainFor_of_name (by decide)) (mz_c1 (mz_cat_rf _) (mz_c1 rfl mz_c0)) (Nat.le_of_ble_eq_true rfl) ?_
  intro p e s m args below meth c Y
  exact pf_X11_thingOf_b0 r Y h a0 x1 _ _ hr
theorem dX11_of_0 : decode cX11_of 0 = .ok (.aload_n 0, 1) := by decide +kernel
theorem dX11_of_1 : decode cX11_of 1 = .ok (.iload_n 1, 1) := by decide +kernel
theorem dX11_of_2 : decode cX11_of 2 = .ok (.invokevirtual 212, 3) := by decide +kernel
theorem dX11_of_5 : decode cX11_of 5 = .ok (.astore_n 3, 1) := by decide +kernel
theorem dX11_of_6 : decode cX11_of 6 = .ok (.aload_n 3, 1) := by decide +kernel
theorem dX11_of_7 : decode cX11_of 7 = .ok (.ifnonnull 5, 3) := by decide +kernel
theorem dX11_of_10 : decode cX11_of 10 = .ok (.iconst (-1), 1) := by decide +kernel
theorem dX11_of_11 : decode cX11_of 11 = .ok (.ireturn, 1) := by decide +kernel
theorem dX11_of_12 : decode cX11_of 12 = .ok (.iload_n 2, 1) := by decide +kernel
theorem dX11_of_13 : decode cX11_of 13 = .ok (.lookupswitch 38 #[(0, 27), (1, 32)], 27) := by decide +kernel
theorem dX11_of_40 : decode cX11_of 40 = .ok (.aload_n 3, 1) := by decide +kernel
theorem dX11_of_41 : decode cX11_of 41 = .ok (.getfield 216, 3) := by decide +kernel
theorem dX11_of_44 : decode cX11_of 44 = .ok (.ireturn, 1) := by decide +kernel
theorem dX11_of_45 : decode cX11_of 45 = .ok (.aload_n 3, 1) := by decide +kernel
theorem dX11_of_46 : decode cX11_of 46 = .ok (.getfield 219, 3) := by decide +kernel
theorem dX11_of_49 : decode cX11_of 49 = .ok (.arraylength, 1) := by decide +kernel
theorem dX11_of_50 : decode cX11_of 50 = .ok (.ireturn, 1) := by decide +kernel
theorem dX11_of_51 : decode cX11_of 51 = .ok (.bipush (-2), 2) := by decide +kernel
theorem dX11_of_53 : decode cX11_of 53 = .ok (.ireturn, 1) := by decide +kernel
def fn_X11_of (h : mz_H) (a0 : (Option Nat)) (x1 : Int32) (x2 : Int32) : mz_Res Int32 :=
  mz_chk (mz_is h a0 10) <| mz_call (fn_X11_thingOf h a0 x1) fun v1 h =>
  if v1 = none then
    mz_ret (-1) h
  else
    if x2 = 0 then
      mz_op (mz_fI h v1 7 0) fun v2 =>
      mz_ret v2 h
    else
    if x2 = 1 then
      mz_op (mz_fR h v1 7 1) fun v3 =>
      mz_op (mz_len h v3 15) fun v4 =>
      mz_ret v4 h
    else
    mz_ret (-2) h
set_option maxHeartbeats 4000000 in
set_option maxRecDepth 100000 in
theorem pf_X11_of_b0 (r : Int32) (Y : mz_Y p g RX11 cX11_of 4 (some .int) "of" (mz_AF h0) s m args meth c) (h : mz_H) (a0 : (Option Nat)) (x1 : Int32) (x2 : Int32) (dc ds : Nat) (hr : fn_X11_of h a0 x1 x2 = some (r, hf, dc, ds)) : mz_Go l g p e s m args below meth c 1 21 DC DS h0 (some (Value.int r)) hf 4 0 [(0, false, va_rf a0), (1, false, .int x1), (2, false, .int x2)] [] h dc ds := by
  unfold fn_X11_of at hr
  intro H locs cells slots ls hH hS hl hc hs
  have X := Y.1
  refine mz_aload_n X dX11_of_0 rfl (mz_at hl 0 rfl) ?_
  refine lv_iload_n X.1 X.2.1 dX11_of_1 rfl (mz_at hl 1 rfl) ?_
  refine mz_kV va_rf X hH hS hl.1.1 [.int x1] [] hr (ct_X11_thingOf l g h a0 x1) mb_RX11_212 rfl im_X11_thingOf rfl (Nat.le_of_ble_eq_true rfl) ⟨Nat.le_of_ble_eq_true rfl, Nat.le_of_ble_eq_true rfl⟩ hc hs dX11_of_2 rfl (fun v1 h H locs cells slots dc ds hr hH hS hc hs => ?_)
  refine mz_astore_n X [(3, false, va_rf v1), (0, false, va_rf a0), (1, false, .int x1), (2, false, .int x2)] dX11_of_5 rfl hl (by decide) rfl (fun ls hl => ?_)
  refine mz_aload_n X dX11_of_6 rfl (mz_at hl 0 rfl) ?_
  refine mz_ifnonnull X 12 dX11_of_7 (by decide) hr (fun hr => ?_) (fun hr => ?_)
  · refine lv_iload_n X.1 X.2.1 dX11_of_12 rfl (mz_at hl 3 rfl) ?_
    by_cases q0 : x2 = 0
    · rw [if_pos q0] at hr
      refine lv_lookup (tgt := 40) X.1 X.2.1 dX11_of_13 (by decide) (by rw [q0]) (by decide) ?_
      refine mz_aload_n X dX11_of_40 rfl (mz_at hl 0 rfl) ?_
      refine mz_getI X hH fl_RX11_216 dX11_of_41 hr (fun v2 hr => ?_)
      exact mz_iret Y dX11_of_44 hH hS hc hs hr
    rw [if_neg q0] at hr
    by_cases q1 : x2 = 1
    · rw [if_pos q1] at hr
      refine lv_lookup (tgt := 45) X.1 X.2.1 dX11_of_13 (by decide) (by rw [q1]) (by decide) ?_
      refine mz_aload_n X dX11_of_45 rfl (mz_at hl 0 rfl) ?_
      refine mz_getR X hH fl_RX11_219 dX11_of_46 hr (fun v3 hr => ?_)
      refine mz_alen (t := 15) X hH (by decide) dX11_of_49 hr (fun v4 hr => ?_)
      exact mz_iret Y dX11_of_50 hH hS hc hs hr
    rw [if_neg q1] at hr
    have t0 : ¬ (x2 : Int32).toInt = 0 := fun z => q0 (mz_ti 0 (by decide) z)
    have t1 : ¬ (x2 : Int32).toInt = 1 := fun z => q1 (mz_ti 1 (by decide) z)
    refine lv_lookup (tgt := 51) (off := 38) X.1 X.2.1 dX11_of_13 (by decide) (by simp [Op.lookupswitch.offset, t0, Ne.symm t0, t1, Ne.symm t1]) (by decide) ?_
    refine lv_bipush (v := (-2)) X.1 X.2.1 dX11_of_51 (by decide) ?_
    exact mz_iret Y dX11_of_53 hH hS hc hs hr
  · refine lv_iconst (v := (-1)) X.1 X.2.1 dX11_of_10 (by decide) ?_
    exact mz_iret Y dX11_of_11 hH hS hc hs hr
set_option maxRecDepth 100000 in
theorem ct_X11_of (l : Launch) (g : mz_G) (h : mz_H) (a0 : (Option Nat)) (x1 : Int32) (x2 : Int32) (r : Int32) (hf : mz_H) (k n : Nat) (hr : fn_X11_of h a0 x1 x2 = some (r, hf, k, n)) : mz_C l g yX11_of cX11_of 4 (some .int) 1 21 [va_rf a0, .int x1, .int x2] h (some (Value.int r)) hf k n := by
  refine mz_met (as := [(false, va_rf a0), (false, .int x1), (false, .int x2)]) (plainFor_of_name (by decide)) (mz_c1 (mz_cat_rf _) (mz_c1 rfl (mz_c1 rfl mz_c0))) (Nat.le_of_ble_eq_true rfl) ?_
  intro p e s m args below meth c Y
  exact pf_X11_of_b0 r Y h a0 x1 x2 _ _ hr
theorem dX11_slot_0 : decode cX11_slot 0 = .ok (.aload_n 0, 1) := by decide +kernel
theorem dX11_slot_1 : decode cX11_slot 1 = .ok (.iload_n 1, 1) := by decide +kernel
theorem dX11_slot_2 : decode cX11_slot 2 = .ok (.invokevirtual 212, 3) := by decide +kernel
theorem dX11_slot_5 : decode cX11_slot 5 = .ok (.astore_n 3, 1) := by decide +kernel
theorem dX11_slot_6 : decode cX11_slot 6 = .ok (.aload_n 3, 1) := by decide +kernel
theorem dX11_slot_7 : decode cX11_slot 7 = .ok (.ifnonnull 7, 3) := by decide +kernel
theorem dX11_slot_10 : decode cX11_slot 10 = .ok (.iconst (-1), 1) := by decide +kernel
theorem dX11_slot_11 : decode cX11_slot 11 = .ok (.goto 8, 3) := by decide +kernel
theorem dX11_slot_14 : decode cX11_slot 14 = .ok (.aload_n 3, 1) := by decide +kernel
theorem dX11_slot_15 : decode cX11_slot 15 = .ok (.iload_n 2, 1) := by decide +kernel
theorem dX11_slot_16 : decode cX11_slot 16 = .ok (.invokevirtual 223, 3) := by decide +kernel
theorem dX11_slot_19 : decode cX11_slot 19 = .ok (.ireturn, 1) := by decide +kernel
def fn_X11_slot (h : mz_H) (a0 : (Option Nat)) (x1 : Int32) (x2 : Int32) : mz_Res Int32 :=
  mz_chk (mz_is h a0 10) <| mz_call (fn_X11_thingOf h a0 x1) fun v1 h =>
  if v1 = none then
    mz_ret (-1) h
  else
    mz_chk (mz_is h v1 7) <| mz_call (fn_X8_slotNumber h v1 x2) fun v2 h =>
    mz_ret v2 h
set_option maxHeartbeats 4000000 in
set_option maxRecDepth 100000 in
theorem pf_X11_slot_b0 (r : Int32) (Y : mz_Y p g RX11 cX11_slot 4 (some .int) "slot" (mz_AF h0) s m args meth c) (h : mz_H) (a0 : (Option Nat)) (x1 : Int32) (x2 : Int32) (dc ds : Nat) (hr : fn_X11_slot h a0 x1 x2 = some (r, hf, dc, ds)) : mz_Go l g p e s m args below meth c 1 22 DC DS h0 (some (Value.int r)) hf 4 0 [(0, false, va_rf a0), (1, false, .int x1), (2, false, .int x2)] [] h dc ds := by
  unfold fn_X11_slot at hr
  intro H locs cells slots ls hH hS hl hc hs
  have X := Y.1
  refine mz_aload_n X dX11_slot_0 rfl (mz_at hl 0 rfl) ?_
  refine lv_iload_n X.1 X.2.1 dX11_slot_1 rfl (mz_at hl 1 rfl) ?_
  refine mz_kV va_rf X hH hS hl.1.1 [.int x1] [] hr (ct_X11_thingOf l g h a0 x1) mb_RX11_212 rfl im_X11_thingOf rfl (Nat.le_of_ble_eq_true rfl) ⟨Nat.le_of_ble_eq_true rfl, Nat.le_of_ble_eq_true rfl⟩ hc hs dX11_slot_2 rfl (fun v1 h H locs cells slots dc ds hr hH hS hc hs => ?_)
  refine mz_astore_n X [(3, false, va_rf v1), (0, false, va_rf a0), (1, false, .int x1), (2, false, .int x2)] dX11_slot_5 rfl hl (by decide) rfl (fun ls hl => ?_)
  refine mz_aload_n X dX11_slot_6 rfl (mz_at hl 0 rfl) ?_
  refine mz_ifnonnull X 14 dX11_slot_7 (by decide) hr (fun hr => ?_) (fun hr => ?_)
  · refine mz_aload_n X dX11_slot_14 rfl (mz_at hl 0 rfl) ?_
    refine lv_iload_n X.1 X.2.1 dX11_slot_15 rfl (mz_at hl 3 rfl) ?_
    refine mz_kV Value.int X hH hS hl.1.1 [.int x2] [] hr (ct_X8_slotNumber l g h v1 x2) mb_RX11_223 rfl im_X8_slotNumber rfl (Nat.le_of_ble_eq_true rfl) ⟨Nat.le_of_ble_eq_true rfl, Nat.le_of_ble_eq_true rfl⟩ hc hs dX11_slot_16 rfl (fun v2 h H locs cells slots dc ds hr hH hS hc hs => ?_)
    exact mz_iret Y dX11_slot_19 hH hS hc hs hr
  · refine lv_iconst (v := (-1)) X.1 X.2.1 dX11_slot_10 (by decide) ?_
    refine lv_goto (tgt := 19) X.1 X.2.1 dX11_slot_11 (by decide) ?_
    exact mz_iret Y dX11_slot_19 hH hS hc hs hr
set_option maxRecDepth 100000 in
theorem ct_X11_slot (l : Launch) (g : mz_G) (h : mz_H) (a0 : (Option Nat)) (x1 : Int32) (x2 : Int32) (r : Int32) (hf : mz_H) (k n : Nat) (hr : fn_X11_slot h a0 x1 x2 = some (r, hf, k, n)) : mz_C l g yX11_slot cX11_slot 4 (some .int) 1 22 [va_rf a0, .int x1, .int x2] h (some (Value.int r)) hf k n := by
  refine mz_met (as := [(false, va_rf a0), (false, .int x1), (false, .int x2)]) (plainFor_of_name (by decide)) (mz_c1 (mz_cat_rf _) (mz_c1 rfl (mz_c1 rfl mz_c0))) (Nat.le_of_ble_eq_true rfl) ?_
  intro p e s m args below meth c Y
  exact pf_X11_slot_b0 r Y h a0 x1 x2 _ _ hr
theorem dX11_slotOf_0 : decode cX11_slotOf 0 = .ok (.aload_n 0, 1) := by decide +kernel
theorem dX11_slotOf_1 : decode cX11_slotOf 1 = .ok (.iload_n 1, 1) := by decide +kernel
theorem dX11_slotOf_2 : decode cX11_slotOf 2 = .ok (.invokevirtual 212, 3) := by decide +kernel
theorem dX11_slotOf_5 : decode cX11_slotOf 5 = .ok (.astore_n 3, 1) := by decide +kernel
theorem dX11_slotOf_6 : decode cX11_slotOf 6 = .ok (.aload_n 3, 1) := by decide +kernel
theorem dX11_slotOf_7 : decode cX11_slotOf 7 = .ok (.ifnonnull 7, 3) := by decide +kernel
theorem dX11_slotOf_10 : decode cX11_slotOf 10 = .ok (.aconst_null, 1) := by decide +kernel
theorem dX11_slotOf_11 : decode cX11_slotOf 11 = .ok (.goto 8, 3) := by decide +kernel
theorem dX11_slotOf_14 : decode cX11_slotOf 14 = .ok (.aload_n 3, 1) := by decide +kernel
theorem dX11_slotOf_15 : decode cX11_slotOf 15 = .ok (.iload_n 2, 1) := by decide +kernel
theorem dX11_slotOf_16 : decode cX11_slotOf 16 = .ok (.invokevirtual 376, 3) := by decide +kernel
theorem dX11_slotOf_19 : decode cX11_slotOf 19 = .ok (.areturn, 1) := by decide +kernel
def fn_X11_slotOf (h : mz_H) (a0 : (Option Nat)) (x1 : Int32) (x2 : Int32) : mz_Res (Option Nat) :=
  mz_chk (mz_is h a0 10) <| mz_call (fn_X11_thingOf h a0 x1) fun v1 h =>
  if v1 = none then
    mz_ret none h
  else
    mz_chk (mz_is h v1 7) <| mz_call (fn_X8_slotAt h v1 x2) fun v2 h =>
    mz_ret v2 h
set_option maxHeartbeats 4000000 in
set_option maxRecDepth 100000 in
theorem pf_X11_slotOf_b0 (r : (Option Nat)) (Y : mz_Y p g RX11 cX11_slotOf 4 (some (.object "MemberScanner$Slot")) "slotOf" (mz_AF h0) s m args meth c) (h : mz_H) (a0 : (Option Nat)) (x1 : Int32) (x2 : Int32) (dc ds : Nat) (hr : fn_X11_slotOf h a0 x1 x2 = some (r, hf, dc, ds)) : mz_Go l g p e s m args below meth c 1 21 DC DS h0 (some (va_rf r)) hf 4 0 [(0, false, va_rf a0), (1, false, .int x1), (2, false, .int x2)] [] h dc ds := by
  unfold fn_X11_slotOf at hr
  intro H locs cells slots ls hH hS hl hc hs
  have X := Y.1
  refine mz_aload_n X dX11_slotOf_0 rfl (mz_at hl 0 rfl) ?_
  refine lv_iload_n X.1 X.2.1 dX11_slotOf_1 rfl (mz_at hl 1 rfl) ?_
  refine mz_kV va_rf X hH hS hl.1.1 [.int x1] [] hr (ct_X11_thingOf l g h a0 x1) mb_RX11_212 rfl im_X11_thingOf rfl (Nat.le_of_ble_eq_true rfl) ⟨Nat.le_of_ble_eq_true rfl, Nat.le_of_ble_eq_true rfl⟩ hc hs dX11_slotOf_2 rfl (fun v1 h H locs cells slots dc ds hr hH hS hc hs => ?_)
  refine mz_astore_n X [(3, false, va_rf v1), (0, false, va_rf a0), (1, false, .int x1), (2, false, .int x2)] dX11_slotOf_5 rfl hl (by decide) rfl (fun ls hl => ?_)
  refine mz_aload_n X dX11_slotOf_6 rfl (mz_at hl 0 rfl) ?_
  refine mz_ifnonnull X 14 dX11_slotOf_7 (by decide) hr (fun hr => ?_) (fun hr => ?_)
  · refine mz_aload_n X dX11_slotOf_14 rfl (mz_at hl 0 rfl) ?_
    refine lv_iload_n X.1 X.2.1 dX11_slotOf_15 rfl (mz_at hl 3 rfl) ?_
    refine mz_kV va_rf X hH hS hl.1.1 [.int x2] [] hr (ct_X8_slotAt l g h v1 x2) mb_RX11_376 rfl im_X8_slotAt rfl (Nat.le_of_ble_eq_true rfl) ⟨Nat.le_of_ble_eq_true rfl, Nat.le_of_ble_eq_true rfl⟩ hc hs dX11_slotOf_16 rfl (fun v2 h H locs cells slots dc ds hr hH hS hc hs => ?_)
    exact mz_aret Y dX11_slotOf_19 hH hS hc hs hr
  · refine mz_null X dX11_slotOf_10 ?_
    refine lv_goto (tgt := 19) X.1 X.2.1 dX11_slotOf_11 (by decide) ?_
    exact mz_aret Y dX11_slotOf_19 hH hS hc hs hr
set_option maxRecDepth 100000 in
theorem ct_X11_slotOf (l : Launch) (g : mz_G) (h : mz_H) (a0 : (Option Nat)) (x1 : Int32) (x2 : Int32) (r : (Option Nat)) (hf : mz_H) (k n : Nat) (hr : fn_X11_slotOf h a0 x1 x2 = some (r, hf, k, n)) : mz_C l g yX11_slotOf cX11_slotOf 4 (some (.object "MemberScanner$Slot")) 1 21 [va_rf a0, .int x1, .int x2] h (some (va_rf r)) hf k n := by
  refine mz_met (as := [(false, va_rf a0), (false, .int x1), (false, .int x2)]) (plainFor_of_name (by decide)) (mz_c1 (mz_cat_rf _) (mz_c1 rfl (mz_c1 rfl mz_c0))) (Nat.le_of_ble_eq_true rfl) ?_
  intro p e s m args below meth c Y
  exact pf_X11_slotOf_b0 r Y h a0 x1 x2 _ _ hr
theorem dX11_kind_0 : decode cX11_kind 0 = .ok (.aload_n 0, 1) := by decide +kernel
theorem dX11_kind_1 : decode cX11_kind 1 = .ok (.iload_n 1, 1) := by decide +kernel
theorem dX11_kind_2 : decode cX11_kind 2 = .ok (.iload_n 2, 1) := by decide +kernel
theorem dX11_kind_3 : decode cX11_kind 3 = .ok (.invokevirtual 226, 3) := by decide +kernel
theorem dX11_kind_6 : decode cX11_kind 6 = .ok (.astore 4, 2) := by decide +kernel
theorem dX11_kind_8 : decode cX11_kind 8 = .ok (.aload 4, 2) := by decide +kernel
theorem dX11_kind_10 : decode cX11_kind 10 = .ok (.ifnonnull 5, 3) := by decide +kernel
theorem dX11_kind_13 : decode cX11_kind 13 = .ok (.iconst (-1), 1) := by decide +kernel
theorem dX11_kind_14 : decode cX11_kind 14 = .ok (.ireturn, 1) := by decide +kernel
theorem dX11_kind_15 : decode cX11_kind 15 = .ok (.iload_n 3, 1) := by decide +kernel
theorem dX11_kind_16 : decode cX11_kind 16 = .ok (.tableswitch 56 0 3 #[32, 38, 44, 50], 32) := by decide +kernel
theorem dX11_kind_48 : decode cX11_kind 48 = .ok (.aload 4, 2) := by decide +kernel
theorem dX11_kind_50 : decode cX11_kind 50 = .ok (.getfield 230, 3) := by decide +kernel
theorem dX11_kind_53 : decode cX11_kind 53 = .ok (.ireturn, 1) := by decide +kernel
theorem dX11_kind_54 : decode cX11_kind 54 = .ok (.aload 4, 2) := by decide +kernel
theorem dX11_kind_56 : decode cX11_kind 56 = .ok (.getfield 233, 3) := by decide +kernel
theorem dX11_kind_59 : decode cX11_kind 59 = .ok (.ireturn, 1) := by decide +kernel
theorem dX11_kind_60 : decode cX11_kind 60 = .ok (.aload 4, 2) := by decide +kernel
theorem dX11_kind_62 : decode cX11_kind 62 = .ok (.getfield 234, 3) := by decide +kernel
theorem dX11_kind_65 : decode cX11_kind 65 = .ok (.ireturn, 1) := by decide +kernel
theorem dX11_kind_66 : decode cX11_kind 66 = .ok (.aload 4, 2) := by decide +kernel
theorem dX11_kind_68 : decode cX11_kind 68 = .ok (.getfield 235, 3) := by decide +kernel
theorem dX11_kind_71 : decode cX11_kind 71 = .ok (.ireturn, 1) := by decide +kernel
theorem dX11_kind_72 : decode cX11_kind 72 = .ok (.bipush (-2), 2) := by decide +kernel
theorem dX11_kind_74 : decode cX11_kind 74 = .ok (.ireturn, 1) := by decide +kernel
def fn_X11_kind (h : mz_H) (a0 : (Option Nat)) (x1 : Int32) (x2 : Int32) (x3 : Int32) : mz_Res Int32 :=
  mz_chk (mz_is h a0 10) <| mz_call (fn_X11_slotOf h a0 x1 x2) fun v1 h =>
  if v1 = none then
    mz_ret (-1) h
  else
    if x3 = 0 then
      mz_op (mz_fI h v1 5 0) fun v2 =>
      mz_ret v2 h
    else
    if x3 = 1 then
      mz_op (mz_fI h v1 5 1) fun v3 =>
      mz_ret v3 h
    else
    if x3 = 2 then
      mz_op (mz_fI h v1 5 2) fun v4 =>
      mz_ret v4 h
    else
    if x3 = 3 then
      mz_op (mz_fI h v1 5 3) fun v5 =>
      mz_ret v5 h
    else
    mz_ret (-2) h
set_option maxHeartbeats 4000000 in
set_option maxRecDepth 100000 in
theorem pf_X11_kind_b0 (r : Int32) (Y : mz_Y p g RX11 cX11_kind 5 (some .int) "kind" (mz_AF h0) s m args meth c) (h : mz_H) (a0 : (Option Nat)) (x1 : Int32) (x2 : Int32) (x3 : Int32) (dc ds : Nat) (hr : fn_X11_kind h a0 x1 x2 x3 = some (r, hf, dc, ds)) : mz_Go l g p e s m args below meth c 2 44 DC DS h0 (some (Value.int r)) hf 5 0 [(0, false, va_rf a0), (1, false, .int x1), (2, false, .int x2), (3, false, .int x3)] [] h dc ds := by
  unfold fn_X11_kind at hr
  intro H locs cells slots ls hH hS hl hc hs
  have X := Y.1
  refine mz_aload_n X dX11_kind_0 rfl (mz_at hl 0 rfl) ?_
  refine lv_iload_n X.1 X.2.1 dX11_kind_1 rfl (mz_at hl 1 rfl) ?_
  refine lv_iload_n X.1 X.2.1 dX11_kind_2 rfl (mz_at hl 2 rfl) ?_
  refine mz_kV va_rf X hH hS hl.1.1 [.int x1, .int x2] [] hr (ct_X11_slotOf l g h a0 x1 x2) mb_RX11_226 rfl im_X11_slotOf rfl (Nat.le_of_ble_eq_true rfl) ⟨Nat.le_of_ble_eq_true rfl, Nat.le_of_ble_eq_true rfl⟩ hc hs dX11_kind_3 rfl (fun v1 h H locs cells slots dc ds hr hH hS hc hs => ?_)
  refine mz_astore X [(4, false, va_rf v1), (0, false, va_rf a0), (1, false, .int x1), (2, false, .int x2), (3, false, .int x3)] dX11_kind_6 hl (by decide) rfl (fun ls hl => ?_)
  refine mz_aload X dX11_kind_8 (mz_at hl 0 rfl) ?_
  refine mz_ifnonnull X 15 dX11_kind_10 (by decide) hr (fun hr => ?_) (fun hr => ?_)
  · refine lv_iload_n X.1 X.2.1 dX11_kind_15 rfl (mz_at hl 4 rfl) ?_
    by_cases q0 : x3 = 0
    · rw [if_pos q0] at hr
      refine mz_tin X dX11_kind_16 q0 48 (by decide) (by decide) rfl (by decide) ?_
      refine mz_aload X dX11_kind_48 (mz_at hl 0 rfl) ?_
      refine mz_getI X hH fl_RX11_230 dX11_kind_50 hr (fun v2 hr => ?_)
      exact mz_iret Y dX11_kind_53 hH hS hc hs hr
    rw [if_neg q0] at hr
    by_cases q1 : x3 = 1
    · rw [if_pos q1] at hr
      refine mz_tin X dX11_kind_16 q1 54 (by decide) (by decide) rfl (by decide) ?_
      refine mz_aload X dX11_kind_54 (mz_at hl 0 rfl) ?_
      refine mz_getI X hH fl_RX11_233 dX11_kind_56 hr (fun v3 hr => ?_)
      exact mz_iret Y dX11_kind_59 hH hS hc hs hr
    rw [if_neg q1] at hr
    by_cases q2 : x3 = 2
    · rw [if_pos q2] at hr
      refine mz_tin X dX11_kind_16 q2 60 (by decide) (by decide) rfl (by decide) ?_
      refine mz_aload X dX11_kind_60 (mz_at hl 0 rfl) ?_
      refine mz_getI X hH fl_RX11_234 dX11_kind_62 hr (fun v4 hr => ?_)
      exact mz_iret Y dX11_kind_65 hH hS hc hs hr
    rw [if_neg q2] at hr
    by_cases q3 : x3 = 3
    · rw [if_pos q3] at hr
      refine mz_tin X dX11_kind_16 q3 66 (by decide) (by decide) rfl (by decide) ?_
      refine mz_aload X dX11_kind_66 (mz_at hl 0 rfl) ?_
      refine mz_getI X hH fl_RX11_235 dX11_kind_68 hr (fun v5 hr => ?_)
      exact mz_iret Y dX11_kind_71 hH hS hc hs hr
    rw [if_neg q3] at hr
    have kd : W p l e ({ frames := 2, cells := DC, slots := DS, locals := 44 }) s m args below meth c H locs cells slots (MQ below (mz_Q g h0 (some (Value.int r)) hf) args s DC DS (mz_AF h0)) (F0 m 72 ls []) := by
      refine lv_bipush (v := (-2)) X.1 X.2.1 dX11_kind_72 (by decide) ?_
      exact mz_iret Y dX11_kind_74 hH hS hc hs hr
    have t0 : ¬ (x3 : Int32).toInt = 0 := fun z => q0 (mz_ti 0 (by decide) z)
    have t1 : ¬ (x3 : Int32).toInt = 1 := fun z => q1 (mz_ti 1 (by decide) z)
    have t2 : ¬ (x3 : Int32).toInt = 2 := fun z => q2 (mz_ti 2 (by decide) z)
    have t3 : ¬ (x3 : Int32).toInt = 3 := fun z => q3 (mz_ti 3 (by decide) z)
    exact mz_tout X dX11_kind_16 72 (by omega) (by decide) kd
  · refine lv_iconst (v := (-1)) X.1 X.2.1 dX11_kind_13 (by decide) ?_
    exact mz_iret Y dX11_kind_14 hH hS hc hs hr
set_option maxRecDepth 100000 in
theorem ct_X11_kind (l : Launch) (g : mz_G) (h : mz_H) (a0 : (Option Nat)) (x1 : Int32) (x2 : Int32) (x3 : Int32) (r : Int32) (hf : mz_H) (k n : Nat) (hr : fn_X11_kind h a0 x1 x2 x3 = some (r, hf, k, n)) : mz_C l g yX11_kind cX11_kind 5 (some .int) 2 44 [va_rf a0, .int x1, .int x2, .int x3] h (some (Value.int r)) hf k n := by
  refine mz_met (as := [(false, va_rf a0), (false, .int x1), (false, .int x2), (false, .int x3)]) (plainFor_of_name (by decide)) (mz_c1 (mz_cat_rf _) (mz_c1 rfl (mz_c1 rfl (mz_c1 rfl mz_c0)))) (Nat.le_of_ble_eq_true rfl) ?_
  intro p e s m args below meth c Y
  exact pf_X11_kind_b0 r Y h a0 x1 x2 x3 _ _ hr
end

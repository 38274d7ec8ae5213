/-! X12_isBelow X12_face X12_variable X12_member X12_cost X12_says X12_way X12_below X12_laneOf X12_breaks X12_hasStaticKey -/
section
variable {p : Program} {l : Launch} {e : Env} {s : State} {m : MethodId} {args : Array Value} {below : List Frame} {meth : Method} {c : Code} {g : mz_G} {h0 hf : mz_H} {DC DS : Nat}
theorem dX12_isBelow_0 : decode cX12_isBelow 0 = .ok (.aload_n 0, 1) := by decide +kernel
theorem dX12_isBelow_1 : decode cX12_isBelow 1 = .ok (.iload_n 1, 1) := by decide +kernel
theorem dX12_isBelow_2 : decode cX12_isBelow 2 = .ok (.invokevirtual 159, 3) := by decide +kernel
theorem dX12_isBelow_5 : decode cX12_isBelow 5 = .ok (.aload_n 0, 1) := by decide +kernel
theorem dX12_isBelow_6 : decode cX12_isBelow 6 = .ok (.iload_n 2, 1) := by decide +kernel
theorem dX12_isBelow_7 : decode cX12_isBelow 7 = .ok (.invokevirtual 156, 3) := by decide +kernel
theorem dX12_isBelow_10 : decode cX12_isBelow 10 = .ok (.ireturn, 1) := by decide +kernel
def fn_X12_isBelow (h : mz_H) (a0 : (Option Nat)) (x1 : Int32) (x2 : Int32) : mz_Res Int32 :=
  mz_chk (mz_is h a0 11) <| mz_call (fn_X12_findWay h a0 x1) fun _ h =>
  mz_chk (mz_is h a0 11) <| mz_call (fn_X12_isOnWay h a0 x2) fun v1 h =>
  mz_chk (v1 &&& 1 == v1) (mz_ret v1 h)
set_option maxHeartbeats 4000000 in
set_option maxRecDepth 100000 in
theorem pf_X12_isBelow_b0 (r : Int32) (Y : mz_Y p g RX12 cX12_isBelow 3 (some .boolean) "isBelow" (mz_AF h0) s m args meth c) (h : mz_H) (a0 : (Option Nat)) (x1 : Int32) (x2 : Int32) (dc ds : Nat) (hr : fn_X12_isBelow h a0 x1 x2 = some (r, hf, dc, ds)) : mz_Go l g p e s m args below meth c 2 49 DC DS h0 (some (Value.int r)) hf 3 0 [(0, false, va_rf a0), (1, false, .int x1), (2, false, .int x2)] [] h dc ds := by
  unfold fn_X12_isBelow at hr
  intro H locs cells slots ls hH hS hl hc hs
  have X := Y.1
  refine mz_aload_n X dX12_isBelow_0 rfl (mz_at hl 0 rfl) ?_
  refine lv_iload_n X.1 X.2.1 dX12_isBelow_1 rfl (mz_at hl 1 rfl) ?_
  refine mz_kV0 X hH hS hl.1.1 [.int x1] [] hr (ct_X12_findWay l g h a0 x1) mb_RX12_159 rfl im_X12_findWay rfl (Nat.le_of_ble_eq_true rfl) ⟨Nat.le_of_ble_eq_true rfl, Nat.le_of_ble_eq_true rfl⟩ hc hs dX12_isBelow_2 rfl (fun _ h H locs cells slots dc ds hr hH hS hc hs => ?_)
  refine mz_aload_n X dX12_isBelow_5 rfl (mz_at hl 0 rfl) ?_
  refine lv_iload_n X.1 X.2.1 dX12_isBelow_6 rfl (mz_at hl 2 rfl) ?_
  refine mz_kV Value.int X hH hS hl.1.1 [.int x2] [] hr (ct_X12_isOnWay l g h a0 x2) mb_RX12_156 rfl im_X12_isOnWay rfl (Nat.le_of_ble_eq_true rfl) ⟨Nat.le_of_ble_eq_true rfl, Nat.le_of_ble_eq_true rfl⟩ hc hs dX12_isBelow_7 rfl (fun v1 h H locs cells slots dc ds hr hH hS hc hs => ?_)
  exact mz_zret Y dX12_isBelow_10 hH hS hc hs hr
set_option maxRecDepth 100000 in
theorem ct_X12_isBelow (l : Launch) (g : mz_G) (h : mz_H) (a0 : (Option Nat)) (x1 : Int32) (x2 : Int32) (r : Int32) (hf : mz_H) (k n : Nat) (hr : fn_X12_isBelow h a0 x1 x2 = some (r, hf, k, n)) : mz_C l g yX12_isBelow cX12_isBelow 3 (some .boolean) 2 49 [va_rf a0, .int x1, .int x2] h (some (Value.int r)) hf k n := by
  refine mz_met (as := [(false, va_rf a0), (false, .int x1), (false, .int x2)]) (plainFor_of_name (by decide)) (mz_c1 (mz_cat_rf _) (mz_c1 rfl (mz_c1 rfl mz_c0))) (Nat.le_of_ble_eq_true rfl) ?_
  intro p e s m args below meth c Y
  exact pf_X12_isBelow_b0 r Y h a0 x1 x2 _ _ hr
theorem dX12_face_0 : decode cX12_face 0 = .ok (.aload_n 0, 1) := by decide +kernel
theorem dX12_face_1 : decode cX12_face 1 = .ok (.iload_n 1, 1) := by decide +kernel
theorem dX12_face_2 : decode cX12_face 2 = .ok (.invokevirtual 138, 3) := by decide +kernel
theorem dX12_face_5 : decode cX12_face 5 = .ok (.ifCond .eq 11, 3) := by decide +kernel
theorem dX12_face_8 : decode cX12_face 8 = .ok (.aload_n 0, 1) := by decide +kernel
theorem dX12_face_9 : decode cX12_face 9 = .ok (.iload_n 2, 1) := by decide +kernel
theorem dX12_face_10 : decode cX12_face 10 = .ok (.invokevirtual 138, 3) := by decide +kernel
theorem dX12_face_13 : decode cX12_face 13 = .ok (.ifCond .ne 5, 3) := by decide +kernel
theorem dX12_face_16 : decode cX12_face 16 = .ok (.iconst (-1), 1) := by decide +kernel
theorem dX12_face_17 : decode cX12_face 17 = .ok (.ireturn, 1) := by decide +kernel
theorem dX12_face_18 : decode cX12_face 18 = .ok (.iconst 0, 1) := by decide +kernel
theorem dX12_face_19 : decode cX12_face 19 = .ok (.istore_n 3, 1) := by decide +kernel
theorem dX12_face_20 : decode cX12_face 20 = .ok (.iconst 0, 1) := by decide +kernel
theorem dX12_face_21 : decode cX12_face 21 = .ok (.istore 4, 2) := by decide +kernel
theorem dX12_face_23 : decode cX12_face 23 = .ok (.iload 4, 2) := by decide +kernel
theorem dX12_face_25 : decode cX12_face 25 = .ok (.aload_n 0, 1) := by decide +kernel
theorem dX12_face_26 : decode cX12_face 26 = .ok (.getfield 16, 3) := by decide +kernel
theorem dX12_face_29 : decode cX12_face 29 = .ok (.iload_n 1, 1) := by decide +kernel
theorem dX12_face_30 : decode cX12_face 30 = .ok (.iaload, 1) := by decide +kernel
theorem dX12_face_31 : decode cX12_face 31 = .ok (.if_icmp .ge 32, 3) := by decide +kernel
theorem dX12_face_34 : decode cX12_face 34 = .ok (.iload_n 3, 1) := by decide +kernel
theorem dX12_face_35 : decode cX12_face 35 = .ok (.aload_n 0, 1) := by decide +kernel
theorem dX12_face_36 : decode cX12_face 36 = .ok (.getfield 19, 3) := by decide +kernel
theorem dX12_face_39 : decode cX12_face 39 = .ok (.iconst 3, 1) := by decide +kernel
theorem dX12_face_40 : decode cX12_face 40 = .ok (.iload_n 1, 1) := by decide +kernel
theorem dX12_face_41 : decode cX12_face 41 = .ok (.imul, 1) := by decide +kernel
theorem dX12_face_42 : decode cX12_face 42 = .ok (.iload 4, 2) := by decide +kernel
theorem dX12_face_44 : decode cX12_face 44 = .ok (.iadd, 1) := by decide +kernel
theorem dX12_face_45 : decode cX12_face 45 = .ok (.iaload, 1) := by decide +kernel
theorem dX12_face_46 : decode cX12_face 46 = .ok (.iload_n 2, 1) := by decide +kernel
theorem dX12_face_47 : decode cX12_face 47 = .ok (.if_icmp .ne 7, 3) := by decide +kernel
theorem dX12_face_50 : decode cX12_face 50 = .ok (.iconst 1, 1) := by decide +kernel
theorem dX12_face_51 : decode cX12_face 51 = .ok (.goto 4, 3) := by decide +kernel
theorem dX12_face_54 : decode cX12_face 54 = .ok (.iconst 0, 1) := by decide +kernel
theorem dX12_face_55 : decode cX12_face 55 = .ok (.ior, 1) := by decide +kernel
theorem dX12_face_56 : decode cX12_face 56 = .ok (.istore_n 3, 1) := by decide +kernel
theorem dX12_face_57 : decode cX12_face 57 = .ok (.iinc 4 1, 3) := by decide +kernel
theorem dX12_face_60 : decode cX12_face 60 = .ok (.goto (-37), 3) := by decide +kernel
theorem dX12_face_63 : decode cX12_face 63 = .ok (.aload_n 0, 1) := by decide +kernel
theorem dX12_face_64 : decode cX12_face 64 = .ok (.getfield 7, 3) := by decide +kernel
theorem dX12_face_67 : decode cX12_face 67 = .ok (.iload_n 2, 1) := by decide +kernel
theorem dX12_face_68 : decode cX12_face 68 = .ok (.iaload, 1) := by decide +kernel
theorem dX12_face_69 : decode cX12_face 69 = .ok (.iconst 2, 1) := by decide +kernel
theorem dX12_face_70 : decode cX12_face 70 = .ok (.if_icmp .ne 16, 3) := by decide +kernel
theorem dX12_face_73 : decode cX12_face 73 = .ok (.iload_n 3, 1) := by decide +kernel
theorem dX12_face_74 : decode cX12_face 74 = .ok (.ifCond .ne 12, 3) := by decide +kernel
theorem dX12_face_77 : decode cX12_face 77 = .ok (.aload_n 0, 1) := by decide +kernel
theorem dX12_face_78 : decode cX12_face 78 = .ok (.iload_n 2, 1) := by decide +kernel
theorem dX12_face_79 : decode cX12_face 79 = .ok (.iload_n 1, 1) := by decide +kernel
theorem dX12_face_80 : decode cX12_face 80 = .ok (.invokevirtual 162, 3) := by decide +kernel
theorem dX12_face_83 : decode cX12_face 83 = .ok (.ifCond .eq 6, 3) := by decide +kernel
theorem dX12_face_86 : decode cX12_face 86 = .ok (.bipush (-3), 2) := by decide +kernel
theorem dX12_face_88 : decode cX12_face 88 = .ok (.ireturn, 1) := by decide +kernel
theorem dX12_face_89 : decode cX12_face 89 = .ok (.aload_n 0, 1) := by decide +kernel
theorem dX12_face_90 : decode cX12_face 90 = .ok (.getfield 16, 3) := by decide +kernel
theorem dX12_face_93 : decode cX12_face 93 = .ok (.iload_n 1, 1) := by decide +kernel
theorem dX12_face_94 : decode cX12_face 94 = .ok (.iaload, 1) := by decide +kernel
theorem dX12_face_95 : decode cX12_face 95 = .ok (.iconst 3, 1) := by decide +kernel
theorem dX12_face_96 : decode cX12_face 96 = .ok (.if_icmp .ne 6, 3) := by decide +kernel
theorem dX12_face_99 : decode cX12_face 99 = .ok (.bipush (-4), 2) := by decide +kernel
theorem dX12_face_101 : decode cX12_face 101 = .ok (.ireturn, 1) := by decide +kernel
theorem dX12_face_102 : decode cX12_face 102 = .ok (.aload_n 0, 1) := by decide +kernel
theorem dX12_face_103 : decode cX12_face 103 = .ok (.getfield 19, 3) := by decide +kernel
theorem dX12_face_106 : decode cX12_face 106 = .ok (.iconst 3, 1) := by decide +kernel
theorem dX12_face_107 : decode cX12_face 107 = .ok (.iload_n 1, 1) := by decide +kernel
theorem dX12_face_108 : decode cX12_face 108 = .ok (.imul, 1) := by decide +kernel
theorem dX12_face_109 : decode cX12_face 109 = .ok (.aload_n 0, 1) := by decide +kernel
theorem dX12_face_110 : decode cX12_face 110 = .ok (.getfield 16, 3) := by decide +kernel
theorem dX12_face_113 : decode cX12_face 113 = .ok (.iload_n 1, 1) := by decide +kernel
theorem dX12_face_114 : decode cX12_face 114 = .ok (.iaload, 1) := by decide +kernel
theorem dX12_face_115 : decode cX12_face 115 = .ok (.iadd, 1) := by decide +kernel
theorem dX12_face_116 : decode cX12_face 116 = .ok (.iload_n 2, 1) := by decide +kernel
theorem dX12_face_117 : decode cX12_face 117 = .ok (.iastore, 1) := by decide +kernel
theorem dX12_face_118 : decode cX12_face 118 = .ok (.aload_n 0, 1) := by decide +kernel
theorem dX12_face_119 : decode cX12_face 119 = .ok (.getfield 16, 3) := by decide +kernel
theorem dX12_face_122 : decode cX12_face 122 = .ok (.iload_n 1, 1) := by decide +kernel
theorem dX12_face_123 : decode cX12_face 123 = .ok (.dup2, 1) := by decide +kernel
theorem dX12_face_124 : decode cX12_face 124 = .ok (.iaload, 1) := by decide +kernel
theorem dX12_face_125 : decode cX12_face 125 = .ok (.iconst 1, 1) := by decide +kernel
theorem dX12_face_126 : decode cX12_face 126 = .ok (.iadd, 1) := by decide +kernel
theorem dX12_face_127 : decode cX12_face 127 = .ok (.iastore, 1) := by decide +kernel
theorem dX12_face_128 : decode cX12_face 128 = .ok (.aload_n 0, 1) := by decide +kernel
theorem dX12_face_129 : decode cX12_face 129 = .ok (.getfield 16, 3) := by decide +kernel
theorem dX12_face_132 : decode cX12_face 132 = .ok (.iload_n 1, 1) := by decide +kernel
theorem dX12_face_133 : decode cX12_face 133 = .ok (.iaload, 1) := by decide +kernel
theorem dX12_face_134 : decode cX12_face 134 = .ok (.ireturn, 1) := by decide +kernel
def fn_X12_face_b55 (rc23 : mz_H → (Option Nat) → Int32 → Int32 → Int32 → Int32 → mz_Res Int32) (h : mz_H) (a0 : (Option Nat)) (x1 : Int32) (x2 : Int32) (x4 : Int32) (s0 : Int32) (s1 : Int32) : mz_Res Int32 :=
  mz_op (some (s0 ||| s1)) fun v1 =>
  mz_op (some (x4 + 1)) fun v2 =>
  rc23 h a0 x1 x2 v1 v2
set_option maxHeartbeats 4000000 in
set_option maxRecDepth 100000 in
theorem pf_X12_face_b55 (r : Int32) (Y : mz_Y p g RX12 cX12_face 5 (some .int) "face" (mz_AF h0) s m args meth c) {rc23 : mz_H → (Option Nat) → Int32 → Int32 → Int32 → Int32 → mz_Res Int32} (hrc23 : ∀ (h : mz_H) (a0 : (Option Nat)) (x1 : Int32) (x2 : Int32) (x3 : Int32) (x4 : Int32) (dc ds : Nat), rc23 h a0 x1 x2 x3 x4 = some (r, hf, dc, ds) → mz_Go l g p e s m args below meth c 3 71 DC DS h0 (some (Value.int r)) hf 5 23 [(0, false, va_rf a0), (1, false, .int x1), (2, false, .int x2), (3, false, .int x3), (4, false, .int x4)] [] h dc ds) (h : mz_H) (a0 : (Option Nat)) (x1 : Int32) (x2 : Int32) (x4 : Int32) (s0 : Int32) (s1 : Int32) (dc ds : Nat) (hr : fn_X12_face_b55 rc23 h a0 x1 x2 x4 s0 s1 = some (r, hf, dc, ds)) : mz_Go l g p e s m args below meth c 3 71 DC DS h0 (some (Value.int r)) hf 5 55 [(0, false, va_rf a0), (1, false, .int x1), (2, false, .int x2), (4, false, .int x4)] [.int s1, .int s0] h dc ds := by
  unfold fn_X12_face_b55 at hr
  intro H locs cells slots ls hH hS hl hc hs
  have X := Y.1
  refine lv_ior X.1 X.2.1 dX12_face_55 ?_
  refine mz_topi hr (fun v1 hv1 hr => ?_)
  refine mz_istore_n X [(3, false, .int v1), (0, false, va_rf a0), (1, false, .int x1), (2, false, .int x2), (4, false, .int x4)] dX12_face_56 rfl hl (by decide) rfl (fun ls hl => ?_)
  obtain ⟨v2, hv2, hr⟩ := mz_op_some hr
  have hv2 := Option.some.inj hv2
  refine mz_iinc (k := 4) X [(4, false, .int v2), (3, false, .int v1), (0, false, va_rf a0), (1, false, .int x1), (2, false, .int x2)] v2 dX12_face_57 hl rfl hv2 (by decide) rfl (fun ls hl => ?_)
  refine lv_goto (tgt := 23) X.1 X.2.1 dX12_face_60 (by decide) ?_
  exact hrc23 h a0 x1 x2 v1 v2 _ _ hr H locs cells slots ls hH hS (mz_sub hl [2, 3, 4, 1, 0] rfl) hc hs
def fn_X12_face_b23 : Nat → mz_H → (Option Nat) → Int32 → Int32 → Int32 → Int32 → mz_Res Int32
  | 0, _, _, _, _, _, _ => none
  | n + 1, h, a0, x1, x2, x3, x4 =>
    mz_op (mz_fR h a0 11 5) fun v1 =>
    mz_op (mz_aI h v1 0 x1) fun v2 =>
    if v2 ≤ x4 then
      mz_op (mz_fR h a0 11 3) fun v3 =>
      mz_op (mz_aI h v3 0 x2) fun v4 =>
      if v4 = 2 then
        if x3 = 0 then
          mz_chk (mz_is h a0 11) <| mz_call (fn_X12_isBelow h a0 x2 x1) fun v5 h =>
          if v5 = 0 then
            mz_op (mz_fR h a0 11 5) fun v6 =>
            mz_op (mz_aI h v6 0 x1) fun v7 =>
            if v7 = 3 then
              mz_ret (-4) h
            else
              mz_op (mz_fR h a0 11 6) fun v8 =>
              mz_op (mz_fR h a0 11 5) fun v9 =>
              mz_op (mz_aI h v9 0 x1) fun v10 =>
              mz_op (mz_sI h v8 0 ((3 * x1) + v10) x2) fun h =>
              mz_op (mz_fR h a0 11 5) fun v11 =>
              mz_op (mz_aI h v11 0 x1) fun v12 =>
              mz_op (mz_sI h v11 0 x1 (v12 + 1)) fun h =>
              mz_op (mz_fR h a0 11 5) fun v13 =>
              mz_op (mz_aI h v13 0 x1) fun v14 =>
              mz_ret v14 h
          else
            mz_ret (-3) h
        else
          mz_ret (-3) h
      else
        mz_ret (-3) h
    else
      mz_op (mz_fR h a0 11 6) fun v15 =>
      mz_op (mz_aI h v15 0 ((3 * x1) + x4)) fun v16 =>
      if v16 = x2 then
        fn_X12_face_b55 (fn_X12_face_b23 n) h a0 x1 x2 x4 x3 1
      else
        fn_X12_face_b55 (fn_X12_face_b23 n) h a0 x1 x2 x4 x3 0
set_option maxHeartbeats 4000000 in
set_option maxRecDepth 100000 in
theorem pf_X12_face_b23 (r : Int32) (Y : mz_Y p g RX12 cX12_face 5 (some .int) "face" (mz_AF h0) s m args meth c) : ∀ (n : Nat) (h : mz_H) (a0 : (Option Nat)) (x1 : Int32) (x2 : Int32) (x3 : Int32) (x4 : Int32) (dc ds : Nat), fn_X12_face_b23 n h a0 x1 x2 x3 x4 = some (r, hf, dc, ds) → mz_Go l g p e s m args below meth c 3 71 DC DS h0 (some (Value.int r)) hf 5 23 [(0, false, va_rf a0), (1, false, .int x1), (2, false, .int x2), (3, false, .int x3), (4, false, .int x4)] [] h dc ds := by
  have X := Y.1
  intro n
  induction n with
  | zero => intro h a0 x1 x2 x3 x4 dc ds hr; simp [fn_X12_face_b23] at hr
  | succ n ih =>
    intro h a0 x1 x2 x3 x4 dc ds hr
    rw [fn_X12_face_b23] at hr
    intro H locs cells slots ls hH hS hl hc hs
    refine lv_iload X.1 X.2.1 dX12_face_23 (mz_at hl 4 rfl) ?_
    refine mz_aload_n X dX12_face_25 rfl (mz_at hl 0 rfl) ?_
    refine mz_getR X hH fl_RX12_16 dX12_face_26 hr (fun v1 hr => ?_)
    refine lv_iload_n X.1 X.2.1 dX12_face_29 rfl (mz_at hl 1 rfl) ?_
    refine mz_iald X hH dX12_face_30 hr (fun v2 hr => ?_)
    refine mz_icmp_ge X 63 dX12_face_31 (by decide) hr (fun hr => ?_) (fun hr => ?_)
    · refine mz_aload_n X dX12_face_63 rfl (mz_at hl 0 rfl) ?_
      refine mz_getR X hH fl_RX12_7 dX12_face_64 hr (fun v3 hr => ?_)
      refine lv_iload_n X.1 X.2.1 dX12_face_67 rfl (mz_at hl 2 rfl) ?_
      refine mz_iald X hH dX12_face_68 hr (fun v4 hr => ?_)
      refine lv_iconst (v := 2) X.1 X.2.1 dX12_face_69 (by decide) ?_
      refine mz_icmp_ne X 86 dX12_face_70 (by decide) hr (fun hr => ?_) (fun hr => ?_)
      · refine lv_bipush (v := (-3)) X.1 X.2.1 dX12_face_86 (by decide) ?_
        exact mz_iret Y dX12_face_88 hH hS hc hs hr
      · refine lv_iload_n X.1 X.2.1 dX12_face_73 rfl (mz_at hl 3 rfl) ?_
        refine mz_if_ne X 86 dX12_face_74 (by decide) hr (fun hr => ?_) (fun hr => ?_)
        · refine lv_bipush (v := (-3)) X.1 X.2.1 dX12_face_86 (by decide) ?_
          exact mz_iret Y dX12_face_88 hH hS hc hs hr
        · refine mz_aload_n X dX12_face_77 rfl (mz_at hl 0 rfl) ?_
          refine lv_iload_n X.1 X.2.1 dX12_face_78 rfl (mz_at hl 2 rfl) ?_
          refine lv_iload_n X.1 X.2.1 dX12_face_79 rfl (mz_at hl 1 rfl) ?_
          refine mz_kV Value.int X hH hS hl.1.1 [.int x2, .int x1] [] hr (ct_X12_isBelow l g h a0 x2 x1) mb_RX12_162 rfl im_X12_isBelow rfl (Nat.le_of_ble_eq_true rfl) ⟨Nat.le_of_ble_eq_true rfl, Nat.le_of_ble_eq_true rfl⟩ hc hs dX12_face_80 rfl (fun v5 h H locs cells slots dc ds hr hH hS hc hs => ?_)
          refine mz_if_eq X 89 dX12_face_83 (by decide) hr (fun hr => ?_) (fun hr => ?_)
          · refine mz_aload_n X dX12_face_89 rfl (mz_at hl 0 rfl) ?_
            refine mz_getR X hH fl_RX12_16 dX12_face_90 hr (fun v6 hr => ?_)
            refine lv_iload_n X.1 X.2.1 dX12_face_93 rfl (mz_at hl 1 rfl) ?_
            refine mz_iald X hH dX12_face_94 hr (fun v7 hr => ?_)
            refine lv_iconst (v := 3) X.1 X.2.1 dX12_face_95 (by decide) ?_
            refine mz_icmp_ne X 102 dX12_face_96 (by decide) hr (fun hr => ?_) (fun hr => ?_)
            · refine mz_aload_n X dX12_face_102 rfl (mz_at hl 0 rfl) ?_
              refine mz_getR X hH fl_RX12_19 dX12_face_103 hr (fun v8 hr => ?_)
              refine lv_iconst (v := 3) X.1 X.2.1 dX12_face_106 (by decide) ?_
              refine lv_iload_n X.1 X.2.1 dX12_face_107 rfl (mz_at hl 1 rfl) ?_
              refine lv_imul X.1 X.2.1 dX12_face_108 ?_
              refine mz_aload_n X dX12_face_109 rfl (mz_at hl 0 rfl) ?_
              refine mz_getR X hH fl_RX12_16 dX12_face_110 hr (fun v9 hr => ?_)
              refine lv_iload_n X.1 X.2.1 dX12_face_113 rfl (mz_at hl 1 rfl) ?_
              refine mz_iald X hH dX12_face_114 hr (fun v10 hr => ?_)
              refine lv_iadd X.1 X.2.1 dX12_face_115 ?_
              refine lv_iload_n X.1 X.2.1 dX12_face_116 rfl (mz_at hl 2 rfl) ?_
              refine mz_iast X hH hS dX12_face_117 hr (fun h H locs hr hH hS => ?_)
              refine mz_aload_n X dX12_face_118 rfl (mz_at hl 0 rfl) ?_
              refine mz_getR X hH fl_RX12_16 dX12_face_119 hr (fun v11 hr => ?_)
              refine lv_iload_n X.1 X.2.1 dX12_face_122 rfl (mz_at hl 1 rfl) ?_
              refine mz_dup2 X dX12_face_123 ?_
              refine mz_iald X hH dX12_face_124 hr (fun v12 hr => ?_)
              refine lv_iconst (v := 1) X.1 X.2.1 dX12_face_125 (by decide) ?_
              refine lv_iadd X.1 X.2.1 dX12_face_126 ?_
              refine mz_iast X hH hS dX12_face_127 hr (fun h H locs hr hH hS => ?_)
              refine mz_aload_n X dX12_face_128 rfl (mz_at hl 0 rfl) ?_
              refine mz_getR X hH fl_RX12_16 dX12_face_129 hr (fun v13 hr => ?_)
              refine lv_iload_n X.1 X.2.1 dX12_face_132 rfl (mz_at hl 1 rfl) ?_
              refine mz_iald X hH dX12_face_133 hr (fun v14 hr => ?_)
              exact mz_iret Y dX12_face_134 hH hS hc hs hr
            · refine lv_bipush (v := (-4)) X.1 X.2.1 dX12_face_99 (by decide) ?_
              exact mz_iret Y dX12_face_101 hH hS hc hs hr
          · refine lv_bipush (v := (-3)) X.1 X.2.1 dX12_face_86 (by decide) ?_
            exact mz_iret Y dX12_face_88 hH hS hc hs hr
    · refine lv_iload_n X.1 X.2.1 dX12_face_34 rfl (mz_at hl 3 rfl) ?_
      refine mz_aload_n X dX12_face_35 rfl (mz_at hl 0 rfl) ?_
      refine mz_getR X hH fl_RX12_19 dX12_face_36 hr (fun v15 hr => ?_)
      refine lv_iconst (v := 3) X.1 X.2.1 dX12_face_39 (by decide) ?_
      refine lv_iload_n X.1 X.2.1 dX12_face_40 rfl (mz_at hl 1 rfl) ?_
      refine lv_imul X.1 X.2.1 dX12_face_41 ?_
      refine lv_iload X.1 X.2.1 dX12_face_42 (mz_at hl 4 rfl) ?_
      refine lv_iadd X.1 X.2.1 dX12_face_44 ?_
      refine mz_iald X hH dX12_face_45 hr (fun v16 hr => ?_)
      refine lv_iload_n X.1 X.2.1 dX12_face_46 rfl (mz_at hl 2 rfl) ?_
      refine mz_icmp_ne X 54 dX12_face_47 (by decide) hr (fun hr => ?_) (fun hr => ?_)
      · refine lv_iconst (v := 0) X.1 X.2.1 dX12_face_54 (by decide) ?_
        exact pf_X12_face_b55 r Y ih h a0 x1 x2 x4 x3 0 _ _ hr H locs cells slots ls hH hS (mz_sub hl [0, 1, 2, 4] rfl) hc hs
      · refine lv_iconst (v := 1) X.1 X.2.1 dX12_face_50 (by decide) ?_
        refine lv_goto (tgt := 55) X.1 X.2.1 dX12_face_51 (by decide) ?_
        exact pf_X12_face_b55 r Y ih h a0 x1 x2 x4 x3 1 _ _ hr H locs cells slots ls hH hS (mz_sub hl [0, 1, 2, 4] rfl) hc hs
def fn_X12_face (h : mz_H) (a0 : (Option Nat)) (x1 : Int32) (x2 : Int32) : mz_Res Int32 :=
  mz_chk (mz_is h a0 11) <| mz_call (fn_X12_isClass h a0 x1) fun v1 h =>
  if v1 = 0 then
    mz_ret (-1) h
  else
    mz_chk (mz_is h a0 11) <| mz_call (fn_X12_isClass h a0 x2) fun v2 h =>
    if v2 = 0 then
      mz_ret (-1) h
    else
      fn_X12_face_b23 1001 h a0 x1 x2 0 0
set_option maxHeartbeats 4000000 in
set_option maxRecDepth 100000 in
theorem pf_X12_face_b0 (r : Int32) (Y : mz_Y p g RX12 cX12_face 5 (some .int) "face" (mz_AF h0) s m args meth c) (h : mz_H) (a0 : (Option Nat)) (x1 : Int32) (x2 : Int32) (dc ds : Nat) (hr : fn_X12_face h a0 x1 x2 = some (r, hf, dc, ds)) : mz_Go l g p e s m args below meth c 3 71 DC DS h0 (some (Value.int r)) hf 5 0 [(0, false, va_rf a0), (1, false, .int x1), (2, false, .int x2)] [] h dc ds := by
  unfold fn_X12_face at hr
  intro H locs cells slots ls hH hS hl hc hs
  have X := Y.1
  refine mz_aload_n X dX12_face_0 rfl (mz_at hl 0 rfl) ?_
  refine lv_iload_n X.1 X.2.1 dX12_face_1 rfl (mz_at hl 1 rfl) ?_
  refine mz_kV Value.int X hH hS hl.1.1 [.int x1] [] hr (ct_X12_isClass l g h a0 x1) mb_RX12_138 rfl im_X12_isClass rfl (Nat.le_of_ble_eq_true rfl) ⟨Nat.le_of_ble_eq_true rfl, Nat.le_of_ble_eq_true rfl⟩ hc hs dX12_face_2 rfl (fun v1 h H locs cells slots dc ds hr hH hS hc hs => ?_)
  refine mz_if_eq X 16 dX12_face_5 (by decide) hr (fun hr => ?_) (fun hr => ?_)
  · refine lv_iconst (v := (-1)) X.1 X.2.1 dX12_face_16 (by decide) ?_
    exact mz_iret Y dX12_face_17 hH hS hc hs hr
  · refine mz_aload_n X dX12_face_8 rfl (mz_at hl 0 rfl) ?_
    refine lv_iload_n X.1 X.2.1 dX12_face_9 rfl (mz_at hl 2 rfl) ?_
    refine mz_kV Value.int X hH hS hl.1.1 [.int x2] [] hr (ct_X12_isClass l g h a0 x2) mb_RX12_138 rfl im_X12_isClass rfl (Nat.le_of_ble_eq_true rfl) ⟨Nat.le_of_ble_eq_true rfl, Nat.le_of_ble_eq_true rfl⟩ hc hs dX12_face_10 rfl (fun v2 h H locs cells slots dc ds hr hH hS hc hs => ?_)
    refine mz_if_ne X 18 dX12_face_13 (by decide) hr (fun hr => ?_) (fun hr => ?_)
    · refine lv_iconst (v := 0) X.1 X.2.1 dX12_face_18 (by decide) ?_
      refine mz_istore_n X [(3, false, .int 0), (0, false, va_rf a0), (1, false, .int x1), (2, false, .int x2)] dX12_face_19 rfl hl (by decide) rfl (fun ls hl => ?_)
      refine lv_iconst (v := 0) X.1 X.2.1 dX12_face_20 (by decide) ?_
      refine mz_istore X [(4, false, .int 0), (3, false, .int 0), (0, false, va_rf a0), (1, false, .int x1), (2, false, .int x2)] dX12_face_21 hl (by decide) rfl (fun ls hl => ?_)
      exact pf_X12_face_b23 r Y 1001 h a0 x1 x2 0 0 _ _ hr H locs cells slots ls hH hS (mz_sub hl [2, 3, 4, 1, 0] rfl) hc hs
    · refine lv_iconst (v := (-1)) X.1 X.2.1 dX12_face_16 (by decide) ?_
      exact mz_iret Y dX12_face_17 hH hS hc hs hr
set_option maxRecDepth 100000 in
theorem ct_X12_face (l : Launch) (g : mz_G) (h : mz_H) (a0 : (Option Nat)) (x1 : Int32) (x2 : Int32) (r : Int32) (hf : mz_H) (k n : Nat) (hr : fn_X12_face h a0 x1 x2 = some (r, hf, k, n)) : mz_C l g yX12_face cX12_face 5 (some .int) 3 71 [va_rf a0, .int x1, .int x2] h (some (Value.int r)) hf k n := by
  refine mz_met (as := [(false, va_rf a0), (false, .int x1), (false, .int x2)]) (plainFor_of_name (by decide)) (mz_c1 (mz_cat_rf _) (mz_c1 rfl (mz_c1 rfl mz_c0))) (Nat.le_of_ble_eq_true rfl) ?_
  intro p e s m args below meth c Y
  exact pf_X12_face_b0 r Y h a0 x1 x2 _ _ hr
theorem dX12_variable_0 : decode cX12_variable 0 = .ok (.aload_n 0, 1) := by decide +kernel
theorem dX12_variable_1 : decode cX12_variable 1 = .ok (.iload_n 1, 1) := by decide +kernel
theorem dX12_variable_2 : decode cX12_variable 2 = .ok (.invokevirtual 138, 3) := by decide +kernel
theorem dX12_variable_5 : decode cX12_variable 5 = .ok (.ifCond .ne 5, 3) := by decide +kernel
theorem dX12_variable_8 : decode cX12_variable 8 = .ok (.iconst (-1), 1) := by decide +kernel
theorem dX12_variable_9 : decode cX12_variable 9 = .ok (.ireturn, 1) := by decide +kernel
theorem dX12_variable_10 : decode cX12_variable 10 = .ok (.iload_n 2, 1) := by decide +kernel
theorem dX12_variable_11 : decode cX12_variable 11 = .ok (.iconst 0, 1) := by decide +kernel
theorem dX12_variable_12 : decode cX12_variable 12 = .ok (.bipush 7, 2) := by decide +kernel
theorem dX12_variable_14 : decode cX12_variable 14 = .ok (.invokestatic 142, 3) := by decide +kernel
theorem dX12_variable_17 : decode cX12_variable 17 = .ok (.ifCond .ne 6, 3) := by decide +kernel
theorem dX12_variable_20 : decode cX12_variable 20 = .ok (.bipush (-2), 2) := by decide +kernel
theorem dX12_variable_22 : decode cX12_variable 22 = .ok (.ireturn, 1) := by decide +kernel
theorem dX12_variable_23 : decode cX12_variable 23 = .ok (.aload_n 0, 1) := by decide +kernel
theorem dX12_variable_24 : decode cX12_variable 24 = .ok (.getfield 22, 3) := by decide +kernel
theorem dX12_variable_27 : decode cX12_variable 27 = .ok (.iload_n 1, 1) := by decide +kernel
theorem dX12_variable_28 : decode cX12_variable 28 = .ok (.iaload, 1) := by decide +kernel
theorem dX12_variable_29 : decode cX12_variable 29 = .ok (.iconst 2, 1) := by decide +kernel
theorem dX12_variable_30 : decode cX12_variable 30 = .ok (.if_icmp .ne 6, 3) := by decide +kernel
theorem dX12_variable_33 : decode cX12_variable 33 = .ok (.bipush (-4), 2) := by decide +kernel
theorem dX12_variable_35 : decode cX12_variable 35 = .ok (.ireturn, 1) := by decide +kernel
theorem dX12_variable_36 : decode cX12_variable 36 = .ok (.aload_n 0, 1) := by decide +kernel
theorem dX12_variable_37 : decode cX12_variable 37 = .ok (.getfield 25, 3) := by decide +kernel
theorem dX12_variable_40 : decode cX12_variable 40 = .ok (.iconst 2, 1) := by decide +kernel
theorem dX12_variable_41 : decode cX12_variable 41 = .ok (.iload_n 1, 1) := by decide +kernel
theorem dX12_variable_42 : decode cX12_variable 42 = .ok (.imul, 1) := by decide +kernel
theorem dX12_variable_43 : decode cX12_variable 43 = .ok (.aload_n 0, 1) := by decide +kernel
theorem dX12_variable_44 : decode cX12_variable 44 = .ok (.getfield 22, 3) := by decide +kernel
theorem dX12_variable_47 : decode cX12_variable 47 = .ok (.iload_n 1, 1) := by decide +kernel
theorem dX12_variable_48 : decode cX12_variable 48 = .ok (.iaload, 1) := by decide +kernel
theorem dX12_variable_49 : decode cX12_variable 49 = .ok (.iadd, 1) := by decide +kernel
theorem dX12_variable_50 : decode cX12_variable 50 = .ok (.iload_n 2, 1) := by decide +kernel
theorem dX12_variable_51 : decode cX12_variable 51 = .ok (.iastore, 1) := by decide +kernel
theorem dX12_variable_52 : decode cX12_variable 52 = .ok (.aload_n 0, 1) := by decide +kernel
theorem dX12_variable_53 : decode cX12_variable 53 = .ok (.getfield 22, 3) := by decide +kernel
theorem dX12_variable_56 : decode cX12_variable 56 = .ok (.iload_n 1, 1) := by decide +kernel
theorem dX12_variable_57 : decode cX12_variable 57 = .ok (.dup2, 1) := by decide +kernel
theorem dX12_variable_58 : decode cX12_variable 58 = .ok (.iaload, 1) := by decide +kernel
theorem dX12_variable_59 : decode cX12_variable 59 = .ok (.iconst 1, 1) := by decide +kernel
theorem dX12_variable_60 : decode cX12_variable 60 = .ok (.iadd, 1) := by decide +kernel
theorem dX12_variable_61 : decode cX12_variable 61 = .ok (.iastore, 1) := by decide +kernel
theorem dX12_variable_62 : decode cX12_variable 62 = .ok (.aload_n 0, 1) := by decide +kernel
theorem dX12_variable_63 : decode cX12_variable 63 = .ok (.getfield 22, 3) := by decide +kernel
theorem dX12_variable_66 : decode cX12_variable 66 = .ok (.iload_n 1, 1) := by decide +kernel
theorem dX12_variable_67 : decode cX12_variable 67 = .ok (.iaload, 1) := by decide +kernel
theorem dX12_variable_68 : decode cX12_variable 68 = .ok (.iconst 1, 1) := by decide +kernel
theorem dX12_variable_69 : decode cX12_variable 69 = .ok (.isub, 1) := by decide +kernel
theorem dX12_variable_70 : decode cX12_variable 70 = .ok (.ireturn, 1) := by decide +kernel
def fn_X12_variable (h : mz_H) (a0 : (Option Nat)) (x1 : Int32) (x2 : Int32) : mz_Res Int32 :=
  mz_chk (mz_is h a0 11) <| mz_call (fn_X12_isClass h a0 x1) fun v1 h =>
  if v1 = 0 then
    mz_ret (-1) h
  else
    mz_call (fn_X12_within h x2 0 7) fun v2 h =>
    if v2 = 0 then
      mz_ret (-2) h
    else
      mz_op (mz_fR h a0 11 7) fun v3 =>
      mz_op (mz_aI h v3 0 x1) fun v4 =>
      if v4 = 2 then
        mz_ret (-4) h
      else
        mz_op (mz_fR h a0 11 8) fun v5 =>
        mz_op (mz_fR h a0 11 7) fun v6 =>
        mz_op (mz_aI h v6 0 x1) fun v7 =>
        mz_op (mz_sI h v5 0 ((2 * x1) + v7) x2) fun h =>
        mz_op (mz_fR h a0 11 7) fun v8 =>
        mz_op (mz_aI h v8 0 x1) fun v9 =>
        mz_op (mz_sI h v8 0 x1 (v9 + 1)) fun h =>
        mz_op (mz_fR h a0 11 7) fun v10 =>
        mz_op (mz_aI h v10 0 x1) fun v11 =>
        mz_ret (v11 - 1) h
set_option maxHeartbeats 4000000 in
set_option maxRecDepth 100000 in
theorem pf_X12_variable_b0 (r : Int32) (Y : mz_Y p g RX12 cX12_variable 3 (some .int) "variable" (mz_AF h0) s m args meth c) (h : mz_H) (a0 : (Option Nat)) (x1 : Int32) (x2 : Int32) (dc ds : Nat) (hr : fn_X12_variable h a0 x1 x2 = some (r, hf, dc, ds)) : mz_Go l g p e s m args below meth c 1 22 DC DS h0 (some (Value.int r)) hf 3 0 [(0, false, va_rf a0), (1, false, .int x1), (2, false, .int x2)] [] h dc ds := by
  unfold fn_X12_variable at hr
  intro H locs cells slots ls hH hS hl hc hs
  have X := Y.1
  refine mz_aload_n X dX12_variable_0 rfl (mz_at hl 0 rfl) ?_
  refine lv_iload_n X.1 X.2.1 dX12_variable_1 rfl (mz_at hl 1 rfl) ?_
  refine mz_kV Value.int X hH hS hl.1.1 [.int x1] [] hr (ct_X12_isClass l g h a0 x1) mb_RX12_138 rfl im_X12_isClass rfl (Nat.le_of_ble_eq_true rfl) ⟨Nat.le_of_ble_eq_true rfl, Nat.le_of_ble_eq_true rfl⟩ hc hs dX12_variable_2 rfl (fun v1 h H locs cells slots dc ds hr hH hS hc hs => ?_)
  refine mz_if_ne X 10 dX12_variable_5 (by decide) hr (fun hr => ?_) (fun hr => ?_)
  · refine lv_iload_n X.1 X.2.1 dX12_variable_10 rfl (mz_at hl 2 rfl) ?_
    refine lv_iconst (v := 0) X.1 X.2.1 dX12_variable_11 (by decide) ?_
    refine lv_bipush (v := 7) X.1 X.2.1 dX12_variable_12 (by decide) ?_
    refine mz_kS Value.int X hH hS hl.1.1 [.int x2, .int 0, .int 7] [] hr (ct_X12_within l g h x2 0 7) mb_RX12_142 im_X12_within rfl (Nat.le_of_ble_eq_true rfl) ⟨Nat.le_of_ble_eq_true rfl, Nat.le_of_ble_eq_true rfl⟩ hc hs dX12_variable_14 rfl (fun v2 h H locs cells slots dc ds hr hH hS hc hs => ?_)
    refine mz_if_ne X 23 dX12_variable_17 (by decide) hr (fun hr => ?_) (fun hr => ?_)
    · refine mz_aload_n X dX12_variable_23 rfl (mz_at hl 0 rfl) ?_
      refine mz_getR X hH fl_RX12_22 dX12_variable_24 hr (fun v3 hr => ?_)
      refine lv_iload_n X.1 X.2.1 dX12_variable_27 rfl (mz_at hl 1 rfl) ?_
      refine mz_iald X hH dX12_variable_28 hr (fun v4 hr => ?_)
      refine lv_iconst (v := 2) X.1 X.2.1 dX12_variable_29 (by decide) ?_
      refine mz_icmp_ne X 36 dX12_variable_30 (by decide) hr (fun hr => ?_) (fun hr => ?_)
      · refine mz_aload_n X dX12_variable_36 rfl (mz_at hl 0 rfl) ?_
        refine mz_getR X hH fl_RX12_25 dX12_variable_37 hr (fun v5 hr => ?_)
        refine lv_iconst (v := 2) X.1 X.2.1 dX12_variable_40 (by decide) ?_
        refine lv_iload_n X.1 X.2.1 dX12_variable_41 rfl (mz_at hl 1 rfl) ?_
        refine lv_imul X.1 X.2.1 dX12_variable_42 ?_
        refine mz_aload_n X dX12_variable_43 rfl (mz_at hl 0 rfl) ?_
        refine mz_getR X hH fl_RX12_22 dX12_variable_44 hr (fun v6 hr => ?_)
        refine lv_iload_n X.1 X.2.1 dX12_variable_47 rfl (mz_at hl 1 rfl) ?_
        refine mz_iald X hH dX12_variable_48 hr (fun v7 hr => ?_)
        refine lv_iadd X.1 X.2.1 dX12_variable_49 ?_
        refine lv_iload_n X.1 X.2.1 dX12_variable_50 rfl (mz_at hl 2 rfl) ?_
        refine mz_iast X hH hS dX12_variable_51 hr (fun h H locs hr hH hS => ?_)
        refine mz_aload_n X dX12_variable_52 rfl (mz_at hl 0 rfl) ?_
        refine mz_getR X hH fl_RX12_22 dX12_variable_53 hr (fun v8 hr => ?_)
        refine lv_iload_n X.1 X.2.1 dX12_variable_56 rfl (mz_at hl 1 rfl) ?_
        refine mz_dup2 X dX12_variable_57 ?_
        refine mz_iald X hH dX12_variable_58 hr (fun v9 hr => ?_)
        refine lv_iconst (v := 1) X.1 X.2.1 dX12_variable_59 (by decide) ?_
        refine lv_iadd X.1 X.2.1 dX12_variable_60 ?_
        refine mz_iast X hH hS dX12_variable_61 hr (fun h H locs hr hH hS => ?_)
        refine mz_aload_n X dX12_variable_62 rfl (mz_at hl 0 rfl) ?_
        refine mz_getR X hH fl_RX12_22 dX12_variable_63 hr (fun v10 hr => ?_)
        refine lv_iload_n X.1 X.2.1 dX12_variable_66 rfl (mz_at hl 1 rfl) ?_
        refine mz_iald X hH dX12_variable_67 hr (fun v11 hr => ?_)
        refine lv_iconst (v := 1) X.1 X.2.1 dX12_variable_68 (by decide) ?_
        refine lv_isub X.1 X.2.1 dX12_variable_69 ?_
        exact mz_iret Y dX12_variable_70 hH hS hc hs hr
      · refine lv_bipush (v := (-4)) X.1 X.2.1 dX12_variable_33 (by decide) ?_
        exact mz_iret Y dX12_variable_35 hH hS hc hs hr
    · refine lv_bipush (v := (-2)) X.1 X.2.1 dX12_variable_20 (by decide) ?_
      exact mz_iret Y dX12_variable_22 hH hS hc hs hr
  · refine lv_iconst (v := (-1)) X.1 X.2.1 dX12_variable_8 (by decide) ?_
    exact mz_iret Y dX12_variable_9 hH hS hc hs hr
set_option maxRecDepth 100000 in
theorem ct_X12_variable (l : Launch) (g : mz_G) (h : mz_H) (a0 : (Option Nat)) (x1 : Int32) (x2 : Int32) (r : Int32) (hf : mz_H) (k n : Nat) (hr : fn_X12_variable h a0 x1 x2 = some (r, hf, k, n)) : mz_C l g yX12_variable cX12_variable 3 (some .int) 1 22 [va_rf a0, .int x1, .int x2] h (some (Value.int r)) hf k n := by
  refine mz_met (as := [(false, va_rf a0), (false, .int x1), (false, .int x2)]) (plainFor_of_name (by decide)) (mz_c1 (mz_cat_rf _) (mz_c1 rfl (mz_c1 rfl mz_c0))) (Nat.le_of_ble_eq_true rfl) ?_
  intro p e s m args below meth c Y
  exact pf_X12_variable_b0 r Y h a0 x1 x2 _ _ hr
theorem dX12_member_0 : decode cX12_member 0 = .ok (.aload_n 0, 1) := by decide +kernel
theorem dX12_member_1 : decode cX12_member 1 = .ok (.iload_n 1, 1) := by decide +kernel
theorem dX12_member_2 : decode cX12_member 2 = .ok (.invokevirtual 138, 3) := by decide +kernel
theorem dX12_member_5 : decode cX12_member 5 = .ok (.ifCond .ne 5, 3) := by decide +kernel
theorem dX12_member_8 : decode cX12_member 8 = .ok (.iconst (-1), 1) := by decide +kernel
theorem dX12_member_9 : decode cX12_member 9 = .ok (.ireturn, 1) := by decide +kernel
theorem dX12_member_10 : decode cX12_member 10 = .ok (.iload_n 2, 1) := by decide +kernel
theorem dX12_member_11 : decode cX12_member 11 = .ok (.iconst 0, 1) := by decide +kernel
theorem dX12_member_12 : decode cX12_member 12 = .ok (.iconst 2, 1) := by decide +kernel
theorem dX12_member_13 : decode cX12_member 13 = .ok (.invokestatic 142, 3) := by decide +kernel
theorem dX12_member_16 : decode cX12_member 16 = .ok (.ifCond .eq 45, 3) := by decide +kernel
theorem dX12_member_19 : decode cX12_member 19 = .ok (.iload_n 3, 1) := by decide +kernel
theorem dX12_member_20 : decode cX12_member 20 = .ok (.iconst 0, 1) := by decide +kernel
theorem dX12_member_21 : decode cX12_member 21 = .ok (.bipush 30, 2) := by decide +kernel
theorem dX12_member_23 : decode cX12_member 23 = .ok (.invokestatic 142, 3) := by decide +kernel
theorem dX12_member_26 : decode cX12_member 26 = .ok (.ifCond .eq 35, 3) := by decide +kernel
theorem dX12_member_29 : decode cX12_member 29 = .ok (.iload 4, 2) := by decide +kernel
theorem dX12_member_31 : decode cX12_member 31 = .ok (.iconst 0, 1) := by decide +kernel
theorem dX12_member_32 : decode cX12_member 32 = .ok (.bipush 10, 2) := by decide +kernel
theorem dX12_member_34 : decode cX12_member 34 = .ok (.invokestatic 142, 3) := by decide +kernel
theorem dX12_member_37 : decode cX12_member 37 = .ok (.ifCond .eq 24, 3) := by decide +kernel
theorem dX12_member_40 : decode cX12_member 40 = .ok (.iload 5, 2) := by decide +kernel
theorem dX12_member_42 : decode cX12_member 42 = .ok (.iconst 0, 1) := by decide +kernel
theorem dX12_member_43 : decode cX12_member 43 = .ok (.iconst 2, 1) := by decide +kernel
theorem dX12_member_44 : decode cX12_member 44 = .ok (.invokestatic 142, 3) := by decide +kernel
theorem dX12_member_47 : decode cX12_member 47 = .ok (.ifCond .eq 14, 3) := by decide +kernel
theorem dX12_member_50 : decode cX12_member 50 = .ok (.iload 6, 2) := by decide +kernel
theorem dX12_member_52 : decode cX12_member 52 = .ok (.iconst 0, 1) := by decide +kernel
theorem dX12_member_53 : decode cX12_member 53 = .ok (.bipush 7, 2) := by decide +kernel
theorem dX12_member_55 : decode cX12_member 55 = .ok (.invokestatic 142, 3) := by decide +kernel
theorem dX12_member_58 : decode cX12_member 58 = .ok (.ifCond .ne 6, 3) := by decide +kernel
theorem dX12_member_61 : decode cX12_member 61 = .ok (.bipush (-2), 2) := by decide +kernel
theorem dX12_member_63 : decode cX12_member 63 = .ok (.ireturn, 1) := by decide +kernel
theorem dX12_member_64 : decode cX12_member 64 = .ok (.iconst 3, 1) := by decide +kernel
theorem dX12_member_65 : decode cX12_member 65 = .ok (.iload_n 1, 1) := by decide +kernel
theorem dX12_member_66 : decode cX12_member 66 = .ok (.imul, 1) := by decide +kernel
theorem dX12_member_67 : decode cX12_member 67 = .ok (.iload_n 2, 1) := by decide +kernel
theorem dX12_member_68 : decode cX12_member 68 = .ok (.iadd, 1) := by decide +kernel
theorem dX12_member_69 : decode cX12_member 69 = .ok (.bipush 31, 2) := by decide +kernel
theorem dX12_member_71 : decode cX12_member 71 = .ok (.imul, 1) := by decide +kernel
theorem dX12_member_72 : decode cX12_member 72 = .ok (.iload_n 3, 1) := by decide +kernel
theorem dX12_member_73 : decode cX12_member 73 = .ok (.iadd, 1) := by decide +kernel
theorem dX12_member_74 : decode cX12_member 74 = .ok (.istore 7, 2) := by decide +kernel
theorem dX12_member_76 : decode cX12_member 76 = .ok (.iload_n 2, 1) := by decide +kernel
theorem dX12_member_77 : decode cX12_member 77 = .ok (.ifCond .ne 20, 3) := by decide +kernel
theorem dX12_member_80 : decode cX12_member 80 = .ok (.aload_n 0, 1) := by decide +kernel
theorem dX12_member_81 : decode cX12_member 81 = .ok (.getfield 7, 3) := by decide +kernel
theorem dX12_member_84 : decode cX12_member 84 = .ok (.iload_n 1, 1) := by decide +kernel
theorem dX12_member_85 : decode cX12_member 85 = .ok (.iaload, 1) := by decide +kernel
theorem dX12_member_86 : decode cX12_member 86 = .ok (.iconst 2, 1) := by decide +kernel
theorem dX12_member_87 : decode cX12_member 87 = .ok (.if_icmp .ne 10, 3) := by decide +kernel
theorem dX12_member_90 : decode cX12_member 90 = .ok (.iload 6, 2) := by decide +kernel
theorem dX12_member_92 : decode cX12_member 92 = .ok (.iconst 2, 1) := by decide +kernel
theorem dX12_member_93 : decode cX12_member 93 = .ok (.iand, 1) := by decide +kernel
theorem dX12_member_94 : decode cX12_member 94 = .ok (.ifCond .eq 49, 3) := by decide +kernel
theorem dX12_member_97 : decode cX12_member 97 = .ok (.iload_n 2, 1) := by decide +kernel
theorem dX12_member_98 : decode cX12_member 98 = .ok (.iconst 2, 1) := by decide +kernel
theorem dX12_member_99 : decode cX12_member 99 = .ok (.if_icmp .ne 13, 3) := by decide +kernel
theorem dX12_member_102 : decode cX12_member 102 = .ok (.aload_n 0, 1) := by decide +kernel
theorem dX12_member_103 : decode cX12_member 103 = .ok (.getfield 7, 3) := by decide +kernel
theorem dX12_member_106 : decode cX12_member 106 = .ok (.iload_n 1, 1) := by decide +kernel
theorem dX12_member_107 : decode cX12_member 107 = .ok (.iaload, 1) := by decide +kernel
theorem dX12_member_108 : decode cX12_member 108 = .ok (.iconst 3, 1) := by decide +kernel
theorem dX12_member_109 : decode cX12_member 109 = .ok (.if_icmp .ne 34, 3) := by decide +kernel
theorem dX12_member_112 : decode cX12_member 112 = .ok (.iload 4, 2) := by decide +kernel
theorem dX12_member_114 : decode cX12_member 114 = .ok (.bipush 8, 2) := by decide +kernel
theorem dX12_member_116 : decode cX12_member 116 = .ok (.if_icmp .le 17, 3) := by decide +kernel
theorem dX12_member_119 : decode cX12_member 119 = .ok (.iload 4, 2) := by decide +kernel
theorem dX12_member_121 : decode cX12_member 121 = .ok (.bipush 9, 2) := by decide +kernel
theorem dX12_member_123 : decode cX12_member 123 = .ok (.isub, 1) := by decide +kernel
theorem dX12_member_124 : decode cX12_member 124 = .ok (.aload_n 0, 1) := by decide +kernel
theorem dX12_member_125 : decode cX12_member 125 = .ok (.getfield 22, 3) := by decide +kernel
theorem dX12_member_128 : decode cX12_member 128 = .ok (.iload_n 1, 1) := by decide +kernel
theorem dX12_member_129 : decode cX12_member 129 = .ok (.iaload, 1) := by decide +kernel
theorem dX12_member_130 : decode cX12_member 130 = .ok (.if_icmp .ge 13, 3) := by decide +kernel
theorem dX12_member_133 : decode cX12_member 133 = .ok (.aload_n 0, 1) := by decide +kernel
theorem dX12_member_134 : decode cX12_member 134 = .ok (.getfield 31, 3) := by decide +kernel
theorem dX12_member_137 : decode cX12_member 137 = .ok (.iload 7, 2) := by decide +kernel
theorem dX12_member_139 : decode cX12_member 139 = .ok (.baload, 1) := by decide +kernel
theorem dX12_member_140 : decode cX12_member 140 = .ok (.ifCond .eq 6, 3) := by decide +kernel
theorem dX12_member_143 : decode cX12_member 143 = .ok (.bipush (-3), 2) := by decide +kernel
theorem dX12_member_145 : decode cX12_member 145 = .ok (.ireturn, 1) := by decide +kernel
theorem dX12_member_146 : decode cX12_member 146 = .ok (.aload_n 0, 1) := by decide +kernel
theorem dX12_member_147 : decode cX12_member 147 = .ok (.getfield 28, 3) := by decide +kernel
theorem dX12_member_150 : decode cX12_member 150 = .ok (.iload_n 1, 1) := by decide +kernel
theorem dX12_member_151 : decode cX12_member 151 = .ok (.iaload, 1) := by decide +kernel
theorem dX12_member_152 : decode cX12_member 152 = .ok (.bipush 12, 2) := by decide +kernel
theorem dX12_member_154 : decode cX12_member 154 = .ok (.if_icmp .ne 6, 3) := by decide +kernel
theorem dX12_member_157 : decode cX12_member 157 = .ok (.bipush (-4), 2) := by decide +kernel
theorem dX12_member_159 : decode cX12_member 159 = .ok (.ireturn, 1) := by decide +kernel
theorem dX12_member_160 : decode cX12_member 160 = .ok (.aload_n 0, 1) := by decide +kernel
theorem dX12_member_161 : decode cX12_member 161 = .ok (.getfield 31, 3) := by decide +kernel
theorem dX12_member_164 : decode cX12_member 164 = .ok (.iload 7, 2) := by decide +kernel
theorem dX12_member_166 : decode cX12_member 166 = .ok (.iconst 1, 1) := by decide +kernel
theorem dX12_member_167 : decode cX12_member 167 = .ok (.bastore, 1) := by decide +kernel
theorem dX12_member_168 : decode cX12_member 168 = .ok (.aload_n 0, 1) := by decide +kernel
theorem dX12_member_169 : decode cX12_member 169 = .ok (.getfield 35, 3) := by decide +kernel
theorem dX12_member_172 : decode cX12_member 172 = .ok (.iload 7, 2) := by decide +kernel
theorem dX12_member_174 : decode cX12_member 174 = .ok (.iload 4, 2) := by decide +kernel
theorem dX12_member_176 : decode cX12_member 176 = .ok (.iastore, 1) := by decide +kernel
theorem dX12_member_177 : decode cX12_member 177 = .ok (.aload_n 0, 1) := by decide +kernel
theorem dX12_member_178 : decode cX12_member 178 = .ok (.getfield 38, 3) := by decide +kernel
theorem dX12_member_181 : decode cX12_member 181 = .ok (.iload 7, 2) := by decide +kernel
theorem dX12_member_183 : decode cX12_member 183 = .ok (.iload 5, 2) := by decide +kernel
theorem dX12_member_185 : decode cX12_member 185 = .ok (.iastore, 1) := by decide +kernel
theorem dX12_member_186 : decode cX12_member 186 = .ok (.aload_n 0, 1) := by decide +kernel
theorem dX12_member_187 : decode cX12_member 187 = .ok (.getfield 41, 3) := by decide +kernel
theorem dX12_member_190 : decode cX12_member 190 = .ok (.iload 7, 2) := by decide +kernel
theorem dX12_member_192 : decode cX12_member 192 = .ok (.iload 6, 2) := by decide +kernel
theorem dX12_member_194 : decode cX12_member 194 = .ok (.iastore, 1) := by decide +kernel
theorem dX12_member_195 : decode cX12_member 195 = .ok (.aload_n 0, 1) := by decide +kernel
theorem dX12_member_196 : decode cX12_member 196 = .ok (.getfield 28, 3) := by decide +kernel
theorem dX12_member_199 : decode cX12_member 199 = .ok (.iload_n 1, 1) := by decide +kernel
theorem dX12_member_200 : decode cX12_member 200 = .ok (.dup2, 1) := by decide +kernel
theorem dX12_member_201 : decode cX12_member 201 = .ok (.iaload, 1) := by decide +kernel
theorem dX12_member_202 : decode cX12_member 202 = .ok (.iconst 1, 1) := by decide +kernel
theorem dX12_member_203 : decode cX12_member 203 = .ok (.iadd, 1) := by decide +kernel
theorem dX12_member_204 : decode cX12_member 204 = .ok (.iastore, 1) := by decide +kernel
theorem dX12_member_205 : decode cX12_member 205 = .ok (.aload_n 0, 1) := by decide +kernel
theorem dX12_member_206 : decode cX12_member 206 = .ok (.getfield 28, 3) := by decide +kernel
theorem dX12_member_209 : decode cX12_member 209 = .ok (.iload_n 1, 1) := by decide +kernel
theorem dX12_member_210 : decode cX12_member 210 = .ok (.iaload, 1) := by decide +kernel
theorem dX12_member_211 : decode cX12_member 211 = .ok (.iconst 1, 1) := by decide +kernel
theorem dX12_member_212 : decode cX12_member 212 = .ok (.isub, 1) := by decide +kernel
theorem dX12_member_213 : decode cX12_member 213 = .ok (.ireturn, 1) := by decide +kernel
def fn_X12_member_b133 (h : mz_H) (a0 : (Option Nat)) (x1 : Int32) (x4 : Int32) (x5 : Int32) (x6 : Int32) (x7 : Int32) : mz_Res Int32 :=
  mz_op (mz_fR h a0 11 10) fun v1 =>
  mz_op (mz_aI h v1 2 x7) fun v2 =>
  if v2 = 0 then
    mz_op (mz_fR h a0 11 9) fun v3 =>
    mz_op (mz_aI h v3 0 x1) fun v4 =>
    if v4 = 12 then
      mz_ret (-4) h
    else
      mz_op (mz_fR h a0 11 10) fun v5 =>
      mz_op (mz_sI h v5 2 x7 (1 &&& 1)) fun h =>
      mz_op (mz_fR h a0 11 11) fun v6 =>
      mz_op (mz_sI h v6 0 x7 x4) fun h =>
      mz_op (mz_fR h a0 11 12) fun v7 =>
      mz_op (mz_sI h v7 0 x7 x5) fun h =>
      mz_op (mz_fR h a0 11 13) fun v8 =>
      mz_op (mz_sI h v8 0 x7 x6) fun h =>
      mz_op (mz_fR h a0 11 9) fun v9 =>
      mz_op (mz_aI h v9 0 x1) fun v10 =>
      mz_op (mz_sI h v9 0 x1 (v10 + 1)) fun h =>
      mz_op (mz_fR h a0 11 9) fun v11 =>
      mz_op (mz_aI h v11 0 x1) fun v12 =>
      mz_ret (v12 - 1) h
  else
    mz_ret (-3) h
set_option maxHeartbeats 4000000 in
set_option maxRecDepth 100000 in
theorem pf_X12_member_b133 (r : Int32) (Y : mz_Y p g RX12 cX12_member 8 (some .int) "member" (mz_AF h0) s m args meth c) (h : mz_H) (a0 : (Option Nat)) (x1 : Int32) (x4 : Int32) (x5 : Int32) (x6 : Int32) (x7 : Int32) (dc ds : Nat) (hr : fn_X12_member_b133 h a0 x1 x4 x5 x6 x7 = some (r, hf, dc, ds)) : mz_Go l g p e s m args below meth c 1 22 DC DS h0 (some (Value.int r)) hf 8 133 [(0, false, va_rf a0), (1, false, .int x1), (4, false, .int x4), (5, false, .int x5), (6, false, .int x6), (7, false, .int x7)] [] h dc ds := by
  unfold fn_X12_member_b133 at hr
  intro H locs cells slots ls hH hS hl hc hs
  have X := Y.1
  refine mz_aload_n X dX12_member_133 rfl (mz_at hl 0 rfl) ?_
  refine mz_getR X hH fl_RX12_31 dX12_member_134 hr (fun v1 hr => ?_)
  refine lv_iload X.1 X.2.1 dX12_member_137 (mz_at hl 5 rfl) ?_
  refine mz_zald X hH dX12_member_139 hr (fun v2 hr => ?_)
  refine mz_if_eq X 146 dX12_member_140 (by decide) hr (fun hr => ?_) (fun hr => ?_)
  · refine mz_aload_n X dX12_member_146 rfl (mz_at hl 0 rfl) ?_
    refine mz_getR X hH fl_RX12_28 dX12_member_147 hr (fun v3 hr => ?_)
    refine lv_iload_n X.1 X.2.1 dX12_member_150 rfl (mz_at hl 1 rfl) ?_
    refine mz_iald X hH dX12_member_151 hr (fun v4 hr => ?_)
    refine lv_bipush (v := 12) X.1 X.2.1 dX12_member_152 (by decide) ?_
    refine mz_icmp_ne X 160 dX12_member_154 (by decide) hr (fun hr => ?_) (fun hr => ?_)
    · refine mz_aload_n X dX12_member_160 rfl (mz_at hl 0 rfl) ?_
      refine mz_getR X hH fl_RX12_31 dX12_member_161 hr (fun v5 hr => ?_)
      refine lv_iload X.1 X.2.1 dX12_member_164 (mz_at hl 5 rfl) ?_
      refine lv_iconst (v := 1) X.1 X.2.1 dX12_member_166 (by decide) ?_
      refine mz_zast X hH hS dX12_member_167 hr (fun h H locs hr hH hS => ?_)
      refine mz_aload_n X dX12_member_168 rfl (mz_at hl 0 rfl) ?_
      refine mz_getR X hH fl_RX12_35 dX12_member_169 hr (fun v6 hr => ?_)
      refine lv_iload X.1 X.2.1 dX12_member_172 (mz_at hl 5 rfl) ?_
      refine lv_iload X.1 X.2.1 dX12_member_174 (mz_at hl 2 rfl) ?_
      refine mz_iast X hH hS dX12_member_176 hr (fun h H locs hr hH hS => ?_)
      refine mz_aload_n X dX12_member_177 rfl (mz_at hl 0 rfl) ?_
      refine mz_getR X hH fl_RX12_38 dX12_member_178 hr (fun v7 hr => ?_)
      refine lv_iload X.1 X.2.1 dX12_member_181 (mz_at hl 5 rfl) ?_
      refine lv_iload X.1 X.2.1 dX12_member_183 (mz_at hl 3 rfl) ?_
      refine mz_iast X hH hS dX12_member_185 hr (fun h H locs hr hH hS => ?_)
      refine mz_aload_n X dX12_member_186 rfl (mz_at hl 0 rfl) ?_
      refine mz_getR X hH fl_RX12_41 dX12_member_187 hr (fun v8 hr => ?_)
      refine lv_iload X.1 X.2.1 dX12_member_190 (mz_at hl 5 rfl) ?_
      refine lv_iload X.1 X.2.1 dX12_member_192 (mz_at hl 4 rfl) ?_
      refine mz_iast X hH hS dX12_member_194 hr (fun h H locs hr hH hS => ?_)
      refine mz_aload_n X dX12_member_195 rfl (mz_at hl 0 rfl) ?_
      refine mz_getR X hH fl_RX12_28 dX12_member_196 hr (fun v9 hr => ?_)
      refine lv_iload_n X.1 X.2.1 dX12_member_199 rfl (mz_at hl 1 rfl) ?_
      refine mz_dup2 X dX12_member_200 ?_
      refine mz_iald X hH dX12_member_201 hr (fun v10 hr => ?_)
      refine lv_iconst (v := 1) X.1 X.2.1 dX12_member_202 (by decide) ?_
      refine lv_iadd X.1 X.2.1 dX12_member_203 ?_
      refine mz_iast X hH hS dX12_member_204 hr (fun h H locs hr hH hS => ?_)
      refine mz_aload_n X dX12_member_205 rfl (mz_at hl 0 rfl) ?_
      refine mz_getR X hH fl_RX12_28 dX12_member_206 hr (fun v11 hr => ?_)
      refine lv_iload_n X.1 X.2.1 dX12_member_209 rfl (mz_at hl 1 rfl) ?_
      refine mz_iald X hH dX12_member_210 hr (fun v12 hr => ?_)
      refine lv_iconst (v := 1) X.1 X.2.1 dX12_member_211 (by decide) ?_
      refine lv_isub X.1 X.2.1 dX12_member_212 ?_
      exact mz_iret Y dX12_member_213 hH hS hc hs hr
    · refine lv_bipush (v := (-4)) X.1 X.2.1 dX12_member_157 (by decide) ?_
      exact mz_iret Y dX12_member_159 hH hS hc hs hr
  · refine lv_bipush (v := (-3)) X.1 X.2.1 dX12_member_143 (by decide) ?_
    exact mz_iret Y dX12_member_145 hH hS hc hs hr
def fn_X12_member_b112 (h : mz_H) (a0 : (Option Nat)) (x1 : Int32) (x4 : Int32) (x5 : Int32) (x6 : Int32) (x7 : Int32) : mz_Res Int32 :=
  if x4 ≤ 8 then
    fn_X12_member_b133 h a0 x1 x4 x5 x6 x7
  else
    mz_op (mz_fR h a0 11 7) fun v1 =>
    mz_op (mz_aI h v1 0 x1) fun v2 =>
    if v2 ≤ (x4 - 9) then
      mz_ret (-3) h
    else
      fn_X12_member_b133 h a0 x1 x4 x5 x6 x7
set_option maxHeartbeats 4000000 in
set_option maxRecDepth 100000 in
theorem pf_X12_member_b112 (r : Int32) (Y : mz_Y p g RX12 cX12_member 8 (some .int) "member" (mz_AF h0) s m args meth c) (h : mz_H) (a0 : (Option Nat)) (x1 : Int32) (x4 : Int32) (x5 : Int32) (x6 : Int32) (x7 : Int32) (dc ds : Nat) (hr : fn_X12_member_b112 h a0 x1 x4 x5 x6 x7 = some (r, hf, dc, ds)) : mz_Go l g p e s m args below meth c 1 22 DC DS h0 (some (Value.int r)) hf 8 112 [(0, false, va_rf a0), (1, false, .int x1), (4, false, .int x4), (5, false, .int x5), (6, false, .int x6), (7, false, .int x7)] [] h dc ds := by
  unfold fn_X12_member_b112 at hr
  intro H locs cells slots ls hH hS hl hc hs
  have X := Y.1
  refine lv_iload X.1 X.2.1 dX12_member_112 (mz_at hl 2 rfl) ?_
  refine lv_bipush (v := 8) X.1 X.2.1 dX12_member_114 (by decide) ?_
  refine mz_icmp_le X 133 dX12_member_116 (by decide) hr (fun hr => ?_) (fun hr => ?_)
  · exact pf_X12_member_b133 r Y h a0 x1 x4 x5 x6 x7 _ _ hr H locs cells slots ls hH hS (mz_sub hl [0, 1, 2, 3, 4, 5] rfl) hc hs
  · refine lv_iload X.1 X.2.1 dX12_member_119 (mz_at hl 2 rfl) ?_
    refine lv_bipush (v := 9) X.1 X.2.1 dX12_member_121 (by decide) ?_
    refine lv_isub X.1 X.2.1 dX12_member_123 ?_
    refine mz_aload_n X dX12_member_124 rfl (mz_at hl 0 rfl) ?_
    refine mz_getR X hH fl_RX12_22 dX12_member_125 hr (fun v1 hr => ?_)
    refine lv_iload_n X.1 X.2.1 dX12_member_128 rfl (mz_at hl 1 rfl) ?_
    refine mz_iald X hH dX12_member_129 hr (fun v2 hr => ?_)
    refine mz_icmp_ge X 143 dX12_member_130 (by decide) hr (fun hr => ?_) (fun hr => ?_)
    · refine lv_bipush (v := (-3)) X.1 X.2.1 dX12_member_143 (by decide) ?_
      exact mz_iret Y dX12_member_145 hH hS hc hs hr
    · exact pf_X12_member_b133 r Y h a0 x1 x4 x5 x6 x7 _ _ hr H locs cells slots ls hH hS (mz_sub hl [0, 1, 2, 3, 4, 5] rfl) hc hs
def fn_X12_member_b97 (h : mz_H) (a0 : (Option Nat)) (x1 : Int32) (x2 : Int32) (x4 : Int32) (x5 : Int32) (x6 : Int32) (x7 : Int32) : mz_Res Int32 :=
  if x2 = 2 then
    mz_op (mz_fR h a0 11 3) fun v1 =>
    mz_op (mz_aI h v1 0 x1) fun v2 =>
    if v2 = 3 then
      fn_X12_member_b112 h a0 x1 x4 x5 x6 x7
    else
      mz_ret (-3) h
  else
    fn_X12_member_b112 h a0 x1 x4 x5 x6 x7
set_option maxHeartbeats 4000000 in
set_option maxRecDepth 100000 in
theorem pf_X12_member_b97 (r : Int32) (Y : mz_Y p g RX12 cX12_member 8 (some .int) "member" (mz_AF h0) s m args meth c) (h : mz_H) (a0 : (Option Nat)) (x1 : Int32) (x2 : Int32) (x4 : Int32) (x5 : Int32) (x6 : Int32) (x7 : Int32) (dc ds : Nat) (hr : fn_X12_member_b97 h a0 x1 x2 x4 x5 x6 x7 = some (r, hf, dc, ds)) : mz_Go l g p e s m args below meth c 1 22 DC DS h0 (some (Value.int r)) hf 8 97 [(0, false, va_rf a0), (1, false, .int x1), (2, false, .int x2), (4, false, .int x4), (5, false, .int x5), (6, false, .int x6), (7, false, .int x7)] [] h dc ds := by
  unfold fn_X12_member_b97 at hr
  intro H locs cells slots ls hH hS hl hc hs
  have X := Y.1
  refine lv_iload_n X.1 X.2.1 dX12_member_97 rfl (mz_at hl 2 rfl) ?_
  refine lv_iconst (v := 2) X.1 X.2.1 dX12_member_98 (by decide) ?_
  refine mz_icmp_ne X 112 dX12_member_99 (by decide) hr (fun hr => ?_) (fun hr => ?_)
  · exact pf_X12_member_b112 r Y h a0 x1 x4 x5 x6 x7 _ _ hr H locs cells slots ls hH hS (mz_sub hl [0, 1, 3, 4, 5, 6] rfl) hc hs
  · refine mz_aload_n X dX12_member_102 rfl (mz_at hl 0 rfl) ?_
    refine mz_getR X hH fl_RX12_7 dX12_member_103 hr (fun v1 hr => ?_)
    refine lv_iload_n X.1 X.2.1 dX12_member_106 rfl (mz_at hl 1 rfl) ?_
    refine mz_iald X hH dX12_member_107 hr (fun v2 hr => ?_)
    refine lv_iconst (v := 3) X.1 X.2.1 dX12_member_108 (by decide) ?_
    refine mz_icmp_ne X 143 dX12_member_109 (by decide) hr (fun hr => ?_) (fun hr => ?_)
    · refine lv_bipush (v := (-3)) X.1 X.2.1 dX12_member_143 (by decide) ?_
      exact mz_iret Y dX12_member_145 hH hS hc hs hr
    · exact pf_X12_member_b112 r Y h a0 x1 x4 x5 x6 x7 _ _ hr H locs cells slots ls hH hS (mz_sub hl [0, 1, 3, 4, 5, 6] rfl) hc hs
def fn_X12_member (h : mz_H) (a0 : (Option Nat)) (x1 : Int32) (x2 : Int32) (x3 : Int32) (x4 : Int32) (x5 : Int32) (x6 : Int32) : mz_Res Int32 :=
  mz_chk (mz_is h a0 11) <| mz_call (fn_X12_isClass h a0 x1) fun v1 h =>
  if v1 = 0 then
    mz_ret (-1) h
  else
    mz_call (fn_X12_within h x2 0 2) fun v2 h =>
    if v2 = 0 then
      mz_ret (-2) h
    else
      mz_call (fn_X12_within h x3 0 30) fun v3 h =>
      if v3 = 0 then
        mz_ret (-2) h
      else
        mz_call (fn_X12_within h x4 0 10) fun v4 h =>
        if v4 = 0 then
          mz_ret (-2) h
        else
          mz_call (fn_X12_within h x5 0 2) fun v5 h =>
          if v5 = 0 then
            mz_ret (-2) h
          else
            mz_call (fn_X12_within h x6 0 7) fun v6 h =>
            if v6 = 0 then
              mz_ret (-2) h
            else
              mz_op (some ((((3 * x1) + x2) * 31) + x3)) fun v7 =>
              if x2 = 0 then
                mz_op (mz_fR h a0 11 3) fun v8 =>
                mz_op (mz_aI h v8 0 x1) fun v9 =>
                if v9 = 2 then
                  if (x6 &&& 2) = 0 then
                    mz_ret (-3) h
                  else
                    fn_X12_member_b97 h a0 x1 x2 x4 x5 x6 v7
                else
                  fn_X12_member_b97 h a0 x1 x2 x4 x5 x6 v7
              else
                fn_X12_member_b97 h a0 x1 x2 x4 x5 x6 v7
set_option maxHeartbeats 4000000 in
set_option maxRecDepth 100000 in
theorem pf_X12_member_b0 (r : Int32) (Y : mz_Y p g RX12 cX12_member 8 (some .int) "member" (mz_AF h0) s m args meth c) (h : mz_H) (a0 : (Option Nat)) (x1 : Int32) (x2 : Int32) (x3 : Int32) (x4 : Int32) (x5 : Int32) (x6 : Int32) (dc ds : Nat) (hr : fn_X12_member h a0 x1 x2 x3 x4 x5 x6 = some (r, hf, dc, ds)) : mz_Go l g p e s m args below meth c 1 22 DC DS h0 (some (Value.int r)) hf 8 0 [(0, false, va_rf a0), (1, false, .int x1), (2, false, .int x2), (3, false, .int x3), (4, false, .int x4), (5, false, .int x5), (6, false, .int x6)] [] h dc ds := by
  unfold fn_X12_member at hr
  intro H locs cells slots ls hH hS hl hc hs
  have X := Y.1
  refine mz_aload_n X dX12_member_0 rfl (mz_at hl 0 rfl) ?_
  refine lv_iload_n X.1 X.2.1 dX12_member_1 rfl (mz_at hl 1 rfl) ?_
  refine mz_kV Value.int X hH hS hl.1.1 [.int x1] [] hr (ct_X12_isClass l g h a0 x1) mb_RX12_138 rfl im_X12_isClass rfl (Nat.le_of_ble_eq_true rfl) ⟨Nat.le_of_ble_eq_true rfl, Nat.le_of_ble_eq_true rfl⟩ hc hs dX12_member_2 rfl (fun v1 h H locs cells slots dc ds hr hH hS hc hs => ?_)
  refine mz_if_ne X 10 dX12_member_5 (by decide) hr (fun hr => ?_) (fun hr => ?_)
  · refine lv_iload_n X.1 X.2.1 dX12_member_10 rfl (mz_at hl 2 rfl) ?_
    refine lv_iconst (v := 0) X.1 X.2.1 dX12_member_11 (by decide) ?_
    refine lv_iconst (v := 2) X.1 X.2.1 dX12_member_12 (by decide) ?_
    refine mz_kS Value.int X hH hS hl.1.1 [.int x2, .int 0, .int 2] [] hr (ct_X12_within l g h x2 0 2) mb_RX12_142 im_X12_within rfl (Nat.le_of_ble_eq_true rfl) ⟨Nat.le_of_ble_eq_true rfl, Nat.le_of_ble_eq_true rfl⟩ hc hs dX12_member_13 rfl (fun v2 h H locs cells slots dc ds hr hH hS hc hs => ?_)
    refine mz_if_eq X 61 dX12_member_16 (by decide) hr (fun hr => ?_) (fun hr => ?_)
    · refine lv_bipush (v := (-2)) X.1 X.2.1 dX12_member_61 (by decide) ?_
      exact mz_iret Y dX12_member_63 hH hS hc hs hr
    · refine lv_iload_n X.1 X.2.1 dX12_member_19 rfl (mz_at hl 3 rfl) ?_
      refine lv_iconst (v := 0) X.1 X.2.1 dX12_member_20 (by decide) ?_
      refine lv_bipush (v := 30) X.1 X.2.1 dX12_member_21 (by decide) ?_
      refine mz_kS Value.int X hH hS hl.1.1 [.int x3, .int 0, .int 30] [] hr (ct_X12_within l g h x3 0 30) mb_RX12_142 im_X12_within rfl (Nat.le_of_ble_eq_true rfl) ⟨Nat.le_of_ble_eq_true rfl, Nat.le_of_ble_eq_true rfl⟩ hc hs dX12_member_23 rfl (fun v3 h H locs cells slots dc ds hr hH hS hc hs => ?_)
      refine mz_if_eq X 61 dX12_member_26 (by decide) hr (fun hr => ?_) (fun hr => ?_)
      · refine lv_bipush (v := (-2)) X.1 X.2.1 dX12_member_61 (by decide) ?_
        exact mz_iret Y dX12_member_63 hH hS hc hs hr
      · refine lv_iload X.1 X.2.1 dX12_member_29 (mz_at hl 4 rfl) ?_
        refine lv_iconst (v := 0) X.1 X.2.1 dX12_member_31 (by decide) ?_
        refine lv_bipush (v := 10) X.1 X.2.1 dX12_member_32 (by decide) ?_
        refine mz_kS Value.int X hH hS hl.1.1 [.int x4, .int 0, .int 10] [] hr (ct_X12_within l g h x4 0 10) mb_RX12_142 im_X12_within rfl (Nat.le_of_ble_eq_true rfl) ⟨Nat.le_of_ble_eq_true rfl, Nat.le_of_ble_eq_true rfl⟩ hc hs dX12_member_34 rfl (fun v4 h H locs cells slots dc ds hr hH hS hc hs => ?_)
        refine mz_if_eq X 61 dX12_member_37 (by decide) hr (fun hr => ?_) (fun hr => ?_)
        · refine lv_bipush (v := (-2)) X.1 X.2.1 dX12_member_61 (by decide) ?_
          exact mz_iret Y dX12_member_63 hH hS hc hs hr
        · refine lv_iload X.1 X.2.1 dX12_member_40 (mz_at hl 5 rfl) ?_
          refine lv_iconst (v := 0) X.1 X.2.1 dX12_member_42 (by decide) ?_
          refine lv_iconst (v := 2) X.1 X.2.1 dX12_member_43 (by decide) ?_
          refine mz_kS Value.int X hH hS hl.1.1 [.int x5, .int 0, .int 2] [] hr (ct_X12_within l g h x5 0 2) mb_RX12_142 im_X12_within rfl (Nat.le_of_ble_eq_true rfl) ⟨Nat.le_of_ble_eq_true rfl, Nat.le_of_ble_eq_true rfl⟩ hc hs dX12_member_44 rfl (fun v5 h H locs cells slots dc ds hr hH hS hc hs => ?_)
          refine mz_if_eq X 61 dX12_member_47 (by decide) hr (fun hr => ?_) (fun hr => ?_)
          · refine lv_bipush (v := (-2)) X.1 X.2.1 dX12_member_61 (by decide) ?_
            exact mz_iret Y dX12_member_63 hH hS hc hs hr
          · refine lv_iload X.1 X.2.1 dX12_member_50 (mz_at hl 6 rfl) ?_
            refine lv_iconst (v := 0) X.1 X.2.1 dX12_member_52 (by decide) ?_
            refine lv_bipush (v := 7) X.1 X.2.1 dX12_member_53 (by decide) ?_
            refine mz_kS Value.int X hH hS hl.1.1 [.int x6, .int 0, .int 7] [] hr (ct_X12_within l g h x6 0 7) mb_RX12_142 im_X12_within rfl (Nat.le_of_ble_eq_true rfl) ⟨Nat.le_of_ble_eq_true rfl, Nat.le_of_ble_eq_true rfl⟩ hc hs dX12_member_55 rfl (fun v6 h H locs cells slots dc ds hr hH hS hc hs => ?_)
            refine mz_if_ne X 64 dX12_member_58 (by decide) hr (fun hr => ?_) (fun hr => ?_)
            · refine lv_iconst (v := 3) X.1 X.2.1 dX12_member_64 (by decide) ?_
              refine lv_iload_n X.1 X.2.1 dX12_member_65 rfl (mz_at hl 1 rfl) ?_
              refine lv_imul X.1 X.2.1 dX12_member_66 ?_
              refine lv_iload_n X.1 X.2.1 dX12_member_67 rfl (mz_at hl 2 rfl) ?_
              refine lv_iadd X.1 X.2.1 dX12_member_68 ?_
              refine lv_bipush (v := 31) X.1 X.2.1 dX12_member_69 (by decide) ?_
              refine lv_imul X.1 X.2.1 dX12_member_71 ?_
              refine lv_iload_n X.1 X.2.1 dX12_member_72 rfl (mz_at hl 3 rfl) ?_
              refine lv_iadd X.1 X.2.1 dX12_member_73 ?_
              refine mz_topi hr (fun v7 hv7 hr => ?_)
              refine mz_istore X [(7, false, .int v7), (0, false, va_rf a0), (1, false, .int x1), (2, false, .int x2), (3, false, .int x3), (4, false, .int x4), (5, false, .int x5), (6, false, .int x6)] dX12_member_74 hl (by decide) rfl (fun ls hl => ?_)
              refine lv_iload_n X.1 X.2.1 dX12_member_76 rfl (mz_at hl 3 rfl) ?_
              refine mz_if_ne X 97 dX12_member_77 (by decide) hr (fun hr => ?_) (fun hr => ?_)
              · exact pf_X12_member_b97 r Y h a0 x1 x2 x4 x5 x6 v7 _ _ hr H locs cells slots ls hH hS (mz_sub hl [1, 2, 3, 5, 6, 7, 0] rfl) hc hs
              · refine mz_aload_n X dX12_member_80 rfl (mz_at hl 1 rfl) ?_
                refine mz_getR X hH fl_RX12_7 dX12_member_81 hr (fun v8 hr => ?_)
                refine lv_iload_n X.1 X.2.1 dX12_member_84 rfl (mz_at hl 2 rfl) ?_
                refine mz_iald X hH dX12_member_85 hr (fun v9 hr => ?_)
                refine lv_iconst (v := 2) X.1 X.2.1 dX12_member_86 (by decide) ?_
                refine mz_icmp_ne X 97 dX12_member_87 (by decide) hr (fun hr => ?_) (fun hr => ?_)
                · exact pf_X12_member_b97 r Y h a0 x1 x2 x4 x5 x6 v7 _ _ hr H locs cells slots ls hH hS (mz_sub hl [1, 2, 3, 5, 6, 7, 0] rfl) hc hs
                · refine lv_iload X.1 X.2.1 dX12_member_90 (mz_at hl 7 rfl) ?_
                  refine lv_iconst (v := 2) X.1 X.2.1 dX12_member_92 (by decide) ?_
                  refine lv_iand X.1 X.2.1 dX12_member_93 ?_
                  refine mz_if_eq X 143 dX12_member_94 (by decide) hr (fun hr => ?_) (fun hr => ?_)
                  · refine lv_bipush (v := (-3)) X.1 X.2.1 dX12_member_143 (by decide) ?_
                    exact mz_iret Y dX12_member_145 hH hS hc hs hr
                  · exact pf_X12_member_b97 r Y h a0 x1 x2 x4 x5 x6 v7 _ _ hr H locs cells slots ls hH hS (mz_sub hl [1, 2, 3, 5, 6, 7, 0] rfl) hc hs
            · refine lv_bipush (v := (-2)) X.1 X.2.1 dX12_member_61 (by decide) ?_
              exact mz_iret Y dX12_member_63 hH hS hc hs hr
  · refine lv_iconst (v := (-1)) X.1 X.2.1 dX12_member_8 (by decide) ?_
    exact mz_iret Y dX12_member_9 hH hS hc hs hr
set_option maxRecDepth 100000 in
theorem ct_X12_member (l : Launch) (g : mz_G) (h : mz_H) (a0 : (Option Nat)) (x1 : Int32) (x2 : Int32) (x3 : Int32) (x4 : Int32) (x5 : Int32) (x6 : Int32) (r : Int32) (hf : mz_H) (k n : Nat) (hr : fn_X12_member h a0 x1 x2 x3 x4 x5 x6 = some (r, hf, k, n)) : mz_C l g yX12_member cX12_member 8 (some .int) 1 22 [va_rf a0, .int x1, .int x2, .int x3, .int x4, .int x5, .int x6] h (some (Value.int r)) hf k n := by
  refine mz_met (as := [(false, va_rf a0), (false, .int x1), (false, .int x2), (false, .int x3), (false, .int x4), (false, .int x5), (false, .int x6)]) (plainFor_of_name (by decide)) (mz_c1 (mz_cat_rf _) (mz_c1 rfl (mz_c1 rfl (mz_c1 rfl (mz_c1 rfl (mz_c1 rfl (mz_c1 rfl mz_c0))))))) (Nat.le_of_ble_eq_true rfl) ?_
  intro p e s m args below meth c Y
  exact pf_X12_member_b0 r Y h a0 x1 x2 x3 x4 x5 x6 _ _ hr
theorem dX12_cost_0 : decode cX12_cost 0 = .ok (.aload_n 0, 1) := by decide +kernel
theorem dX12_cost_1 : decode cX12_cost 1 = .ok (.getfield 7, 3) := by decide +kernel
theorem dX12_cost_4 : decode cX12_cost 4 = .ok (.iload_n 1, 1) := by decide +kernel
theorem dX12_cost_5 : decode cX12_cost 5 = .ok (.iaload, 1) := by decide +kernel
theorem dX12_cost_6 : decode cX12_cost 6 = .ok (.tableswitch 50 0 5 #[38, 50, 41, 44, 50, 47], 38) := by decide +kernel
theorem dX12_cost_44 : decode cX12_cost 44 = .ok (.bipush 10, 2) := by decide +kernel
theorem dX12_cost_46 : decode cX12_cost 46 = .ok (.ireturn, 1) := by decide +kernel
theorem dX12_cost_47 : decode cX12_cost 47 = .ok (.bipush 7, 2) := by decide +kernel
theorem dX12_cost_49 : decode cX12_cost 49 = .ok (.ireturn, 1) := by decide +kernel
theorem dX12_cost_50 : decode cX12_cost 50 = .ok (.bipush 12, 2) := by decide +kernel
theorem dX12_cost_52 : decode cX12_cost 52 = .ok (.ireturn, 1) := by decide +kernel
theorem dX12_cost_53 : decode cX12_cost 53 = .ok (.bipush 6, 2) := by decide +kernel
theorem dX12_cost_55 : decode cX12_cost 55 = .ok (.ireturn, 1) := by decide +kernel
theorem dX12_cost_56 : decode cX12_cost 56 = .ok (.iconst 5, 1) := by decide +kernel
theorem dX12_cost_57 : decode cX12_cost 57 = .ok (.ireturn, 1) := by decide +kernel
def fn_X12_cost (h : mz_H) (a0 : (Option Nat)) (x1 : Int32) : mz_Res Int32 :=
  mz_op (mz_fR h a0 11 3) fun v1 =>
  mz_op (mz_aI h v1 0 x1) fun v2 =>
  if v2 = 0 then
    mz_ret 10 h
  else
  if v2 = 2 then
    mz_ret 7 h
  else
  if v2 = 3 then
    mz_ret 12 h
  else
  if v2 = 5 then
    mz_ret 6 h
  else
  mz_ret 5 h
set_option maxHeartbeats 4000000 in
set_option maxRecDepth 100000 in
theorem pf_X12_cost_b0 (r : Int32) (Y : mz_Y p g RX12 cX12_cost 2 (some .int) "cost" (mz_AF h0) s m args meth c) (h : mz_H) (a0 : (Option Nat)) (x1 : Int32) (dc ds : Nat) (hr : fn_X12_cost h a0 x1 = some (r, hf, dc, ds)) : mz_Go l g p e s m args below meth c 0 0 DC DS h0 (some (Value.int r)) hf 2 0 [(0, false, va_rf a0), (1, false, .int x1)] [] h dc ds := by
  unfold fn_X12_cost at hr
  intro H locs cells slots ls hH hS hl hc hs
  have X := Y.1
  refine mz_aload_n X dX12_cost_0 rfl (mz_at hl 0 rfl) ?_
  refine mz_getR X hH fl_RX12_7 dX12_cost_1 hr (fun v1 hr => ?_)
  refine lv_iload_n X.1 X.2.1 dX12_cost_4 rfl (mz_at hl 1 rfl) ?_
  refine mz_iald X hH dX12_cost_5 hr (fun v2 hr => ?_)
  by_cases q0 : v2 = 0
  · rw [if_pos q0] at hr
    refine mz_tin X dX12_cost_6 q0 44 (by decide) (by decide) rfl (by decide) ?_
    refine lv_bipush (v := 10) X.1 X.2.1 dX12_cost_44 (by decide) ?_
    exact mz_iret Y dX12_cost_46 hH hS hc hs hr
  rw [if_neg q0] at hr
  by_cases q2 : v2 = 2
  · rw [if_pos q2] at hr
    refine mz_tin X dX12_cost_6 q2 47 (by decide) (by decide) rfl (by decide) ?_
    refine lv_bipush (v := 7) X.1 X.2.1 dX12_cost_47 (by decide) ?_
    exact mz_iret Y dX12_cost_49 hH hS hc hs hr
  rw [if_neg q2] at hr
  by_cases q3 : v2 = 3
  · rw [if_pos q3] at hr
    refine mz_tin X dX12_cost_6 q3 50 (by decide) (by decide) rfl (by decide) ?_
    refine lv_bipush (v := 12) X.1 X.2.1 dX12_cost_50 (by decide) ?_
    exact mz_iret Y dX12_cost_52 hH hS hc hs hr
  rw [if_neg q3] at hr
  by_cases q5 : v2 = 5
  · rw [if_pos q5] at hr
    refine mz_tin X dX12_cost_6 q5 53 (by decide) (by decide) rfl (by decide) ?_
    refine lv_bipush (v := 6) X.1 X.2.1 dX12_cost_53 (by decide) ?_
    exact mz_iret Y dX12_cost_55 hH hS hc hs hr
  rw [if_neg q5] at hr
  have kd : W p l e ({ frames := 0, cells := DC, slots := DS, locals := 0 }) s m args below meth c H locs cells slots (MQ below (mz_Q g h0 (some (Value.int r)) hf) args s DC DS (mz_AF h0)) (F0 m 56 ls []) := by
    refine lv_iconst (v := 5) X.1 X.2.1 dX12_cost_56 (by decide) ?_
    exact mz_iret Y dX12_cost_57 hH hS hc hs hr
  by_cases q1 : v2 = 1
  · exact mz_tin X dX12_cost_6 q1 56 (by decide) (by decide) rfl (by decide) kd
  by_cases q4 : v2 = 4
  · exact mz_tin X dX12_cost_6 q4 56 (by decide) (by decide) rfl (by decide) kd
  have t0 : ¬ (v2 : Int32).toInt = 0 := fun z => q0 (mz_ti 0 (by decide) z)
  have t1 : ¬ (v2 : Int32).toInt = 1 := fun z => q1 (mz_ti 1 (by decide) z)
  have t2 : ¬ (v2 : Int32).toInt = 2 := fun z => q2 (mz_ti 2 (by decide) z)
  have t3 : ¬ (v2 : Int32).toInt = 3 := fun z => q3 (mz_ti 3 (by decide) z)
  have t4 : ¬ (v2 : Int32).toInt = 4 := fun z => q4 (mz_ti 4 (by decide) z)
  have t5 : ¬ (v2 : Int32).toInt = 5 := fun z => q5 (mz_ti 5 (by decide) z)
  exact mz_tout X dX12_cost_6 56 (by omega) (by decide) kd
set_option maxRecDepth 100000 in
theorem ct_X12_cost (l : Launch) (g : mz_G) (h : mz_H) (a0 : (Option Nat)) (x1 : Int32) (r : Int32) (hf : mz_H) (k n : Nat) (hr : fn_X12_cost h a0 x1 = some (r, hf, k, n)) : mz_C l g yX12_cost cX12_cost 2 (some .int) 0 0 [va_rf a0, .int x1] h (some (Value.int r)) hf k n := by
  refine mz_met (as := [(false, va_rf a0), (false, .int x1)]) (plainFor_of_name (by decide)) (mz_c1 (mz_cat_rf _) (mz_c1 rfl mz_c0)) (Nat.le_of_ble_eq_true rfl) ?_
  intro p e s m args below meth c Y
  exact pf_X12_cost_b0 r Y h a0 x1 _ _ hr
theorem dX12_says_0 : decode cX12_says 0 = .ok (.aload_n 0, 1) := by decide +kernel
theorem dX12_says_1 : decode cX12_says 1 = .ok (.iload_n 1, 1) := by decide +kernel
theorem dX12_says_2 : decode cX12_says 2 = .ok (.invokevirtual 138, 3) := by decide +kernel
theorem dX12_says_5 : decode cX12_says 5 = .ok (.ifCond .ne 5, 3) := by decide +kernel
theorem dX12_says_8 : decode cX12_says 8 = .ok (.iconst (-1), 1) := by decide +kernel
theorem dX12_says_9 : decode cX12_says 9 = .ok (.ireturn, 1) := by decide +kernel
theorem dX12_says_10 : decode cX12_says 10 = .ok (.iload_n 2, 1) := by decide +kernel
theorem dX12_says_11 : decode cX12_says 11 = .ok (.tableswitch 117 0 8 #[49, 56, 63, 70, 77, 84, 94, 109, 115], 49) := by decide +kernel
theorem dX12_says_60 : decode cX12_says 60 = .ok (.aload_n 0, 1) := by decide +kernel
theorem dX12_says_61 : decode cX12_says 61 = .ok (.getfield 7, 3) := by decide +kernel
theorem dX12_says_64 : decode cX12_says 64 = .ok (.iload_n 1, 1) := by decide +kernel
theorem dX12_says_65 : decode cX12_says 65 = .ok (.iaload, 1) := by decide +kernel
theorem dX12_says_66 : decode cX12_says 66 = .ok (.ireturn, 1) := by decide +kernel
theorem dX12_says_67 : decode cX12_says 67 = .ok (.aload_n 0, 1) := by decide +kernel
theorem dX12_says_68 : decode cX12_says 68 = .ok (.getfield 13, 3) := by decide +kernel
theorem dX12_says_71 : decode cX12_says 71 = .ok (.iload_n 1, 1) := by decide +kernel
theorem dX12_says_72 : decode cX12_says 72 = .ok (.iaload, 1) := by decide +kernel
theorem dX12_says_73 : decode cX12_says 73 = .ok (.ireturn, 1) := by decide +kernel
theorem dX12_says_74 : decode cX12_says 74 = .ok (.aload_n 0, 1) := by decide +kernel
theorem dX12_says_75 : decode cX12_says 75 = .ok (.getfield 16, 3) := by decide +kernel
theorem dX12_says_78 : decode cX12_says 78 = .ok (.iload_n 1, 1) := by decide +kernel
theorem dX12_says_79 : decode cX12_says 79 = .ok (.iaload, 1) := by decide +kernel
theorem dX12_says_80 : decode cX12_says 80 = .ok (.ireturn, 1) := by decide +kernel
theorem dX12_says_81 : decode cX12_says 81 = .ok (.aload_n 0, 1) := by decide +kernel
theorem dX12_says_82 : decode cX12_says 82 = .ok (.getfield 22, 3) := by decide +kernel
theorem dX12_says_85 : decode cX12_says 85 = .ok (.iload_n 1, 1) := by decide +kernel
theorem dX12_says_86 : decode cX12_says 86 = .ok (.iaload, 1) := by decide +kernel
theorem dX12_says_87 : decode cX12_says 87 = .ok (.ireturn, 1) := by decide +kernel
theorem dX12_says_88 : decode cX12_says 88 = .ok (.aload_n 0, 1) := by decide +kernel
theorem dX12_says_89 : decode cX12_says 89 = .ok (.getfield 28, 3) := by decide +kernel
theorem dX12_says_92 : decode cX12_says 92 = .ok (.iload_n 1, 1) := by decide +kernel
theorem dX12_says_93 : decode cX12_says 93 = .ok (.iaload, 1) := by decide +kernel
theorem dX12_says_94 : decode cX12_says 94 = .ok (.ireturn, 1) := by decide +kernel
theorem dX12_says_95 : decode cX12_says 95 = .ok (.aload_n 0, 1) := by decide +kernel
theorem dX12_says_96 : decode cX12_says 96 = .ok (.iload_n 1, 1) := by decide +kernel
theorem dX12_says_97 : decode cX12_says 97 = .ok (.invokevirtual 159, 3) := by decide +kernel
theorem dX12_says_100 : decode cX12_says 100 = .ok (.aload_n 0, 1) := by decide +kernel
theorem dX12_says_101 : decode cX12_says 101 = .ok (.getfield 149, 3) := by decide +kernel
theorem dX12_says_104 : decode cX12_says 104 = .ok (.ireturn, 1) := by decide +kernel
theorem dX12_says_105 : decode cX12_says 105 = .ok (.aload_n 0, 1) := by decide +kernel
theorem dX12_says_106 : decode cX12_says 106 = .ok (.getfield 44, 3) := by decide +kernel
theorem dX12_says_109 : decode cX12_says 109 = .ok (.iload_n 1, 1) := by decide +kernel
theorem dX12_says_110 : decode cX12_says 110 = .ok (.baload, 1) := by decide +kernel
theorem dX12_says_111 : decode cX12_says 111 = .ok (.ifCond .eq 7, 3) := by decide +kernel
theorem dX12_says_114 : decode cX12_says 114 = .ok (.iconst 1, 1) := by decide +kernel
theorem dX12_says_115 : decode cX12_says 115 = .ok (.goto 4, 3) := by decide +kernel
theorem dX12_says_118 : decode cX12_says 118 = .ok (.iconst 0, 1) := by decide +kernel
theorem dX12_says_119 : decode cX12_says 119 = .ok (.ireturn, 1) := by decide +kernel
theorem dX12_says_120 : decode cX12_says 120 = .ok (.aload_n 0, 1) := by decide +kernel
theorem dX12_says_121 : decode cX12_says 121 = .ok (.iload_n 1, 1) := by decide +kernel
theorem dX12_says_122 : decode cX12_says 122 = .ok (.invokevirtual 166, 3) := by decide +kernel
theorem dX12_says_125 : decode cX12_says 125 = .ok (.ireturn, 1) := by decide +kernel
theorem dX12_says_126 : decode cX12_says 126 = .ok (.iconst 0, 1) := by decide +kernel
theorem dX12_says_127 : decode cX12_says 127 = .ok (.ireturn, 1) := by decide +kernel
theorem dX12_says_128 : decode cX12_says 128 = .ok (.bipush (-2), 2) := by decide +kernel
theorem dX12_says_130 : decode cX12_says 130 = .ok (.ireturn, 1) := by decide +kernel
def fn_X12_says (h : mz_H) (a0 : (Option Nat)) (x1 : Int32) (x2 : Int32) : mz_Res Int32 :=
  mz_chk (mz_is h a0 11) <| mz_call (fn_X12_isClass h a0 x1) fun v1 h =>
  if v1 = 0 then
    mz_ret (-1) h
  else
    if x2 = 0 then
      mz_op (mz_fR h a0 11 3) fun v2 =>
      mz_op (mz_aI h v2 0 x1) fun v3 =>
      mz_ret v3 h
    else
    if x2 = 1 then
      mz_op (mz_fR h a0 11 4) fun v4 =>
      mz_op (mz_aI h v4 0 x1) fun v5 =>
      mz_ret v5 h
    else
    if x2 = 2 then
      mz_op (mz_fR h a0 11 5) fun v6 =>
      mz_op (mz_aI h v6 0 x1) fun v7 =>
      mz_ret v7 h
    else
    if x2 = 3 then
      mz_op (mz_fR h a0 11 7) fun v8 =>
      mz_op (mz_aI h v8 0 x1) fun v9 =>
      mz_ret v9 h
    else
    if x2 = 4 then
      mz_op (mz_fR h a0 11 9) fun v10 =>
      mz_op (mz_aI h v10 0 x1) fun v11 =>
      mz_ret v11 h
    else
    if x2 = 5 then
      mz_chk (mz_is h a0 11) <| mz_call (fn_X12_findWay h a0 x1) fun _ h =>
      mz_op (mz_fI h a0 11 17) fun v12 =>
      mz_ret v12 h
    else
    if x2 = 6 then
      mz_op (mz_fR h a0 11 14) fun v13 =>
      mz_op (mz_aI h v13 2 x1) fun v14 =>
      if v14 = 0 then
        mz_ret 0 h
      else
        mz_ret 1 h
    else
    if x2 = 7 then
      mz_chk (mz_is h a0 11) <| mz_call (fn_X12_cost h a0 x1) fun v15 h =>
      mz_ret v15 h
    else
    if x2 = 8 then
      mz_ret 0 h
    else
    mz_ret (-2) h
set_option maxHeartbeats 4000000 in
set_option maxRecDepth 100000 in
theorem pf_X12_says_b0 (r : Int32) (Y : mz_Y p g RX12 cX12_says 3 (some .int) "says" (mz_AF h0) s m args meth c) (h : mz_H) (a0 : (Option Nat)) (x1 : Int32) (x2 : Int32) (dc ds : Nat) (hr : fn_X12_says h a0 x1 x2 = some (r, hf, dc, ds)) : mz_Go l g p e s m args below meth c 2 49 DC DS h0 (some (Value.int r)) hf 3 0 [(0, false, va_rf a0), (1, false, .int x1), (2, false, .int x2)] [] h dc ds := by
  unfold fn_X12_says at hr
  intro H locs cells slots ls hH hS hl hc hs
  have X := Y.1
  refine mz_aload_n X dX12_says_0 rfl (mz_at hl 0 rfl) ?_
  refine lv_iload_n X.1 X.2.1 dX12_says_1 rfl (mz_at hl 1 rfl) ?_
  refine mz_kV Value.int X hH hS hl.1.1 [.int x1] [] hr (ct_X12_isClass l g h a0 x1) mb_RX12_138 rfl im_X12_isClass rfl (Nat.le_of_ble_eq_true rfl) ⟨Nat.le_of_ble_eq_true rfl, Nat.le_of_ble_eq_true rfl⟩ hc hs dX12_says_2 rfl (fun v1 h H locs cells slots dc ds hr hH hS hc hs => ?_)
  refine mz_if_ne X 10 dX12_says_5 (by decide) hr (fun hr => ?_) (fun hr => ?_)
  · refine lv_iload_n X.1 X.2.1 dX12_says_10 rfl (mz_at hl 2 rfl) ?_
    by_cases q0 : x2 = 0
    · rw [if_pos q0] at hr
      refine mz_tin X dX12_says_11 q0 60 (by decide) (by decide) rfl (by decide) ?_
      refine mz_aload_n X dX12_says_60 rfl (mz_at hl 0 rfl) ?_
      refine mz_getR X hH fl_RX12_7 dX12_says_61 hr (fun v2 hr => ?_)
      refine lv_iload_n X.1 X.2.1 dX12_says_64 rfl (mz_at hl 1 rfl) ?_
      refine mz_iald X hH dX12_says_65 hr (fun v3 hr => ?_)
      exact mz_iret Y dX12_says_66 hH hS hc hs hr
    rw [if_neg q0] at hr
    by_cases q1 : x2 = 1
    · rw [if_pos q1] at hr
      refine mz_tin X dX12_says_11 q1 67 (by decide) (by decide) rfl (by decide) ?_
      refine mz_aload_n X dX12_says_67 rfl (mz_at hl 0 rfl) ?_
      refine mz_getR X hH fl_RX12_13 dX12_says_68 hr (fun v4 hr => ?_)
      refine lv_iload_n X.1 X.2.1 dX12_says_71 rfl (mz_at hl 1 rfl) ?_
      refine mz_iald X hH dX12_says_72 hr (fun v5 hr => ?_)
      exact mz_iret Y dX12_says_73 hH hS hc hs hr
    rw [if_neg q1] at hr
    by_cases q2 : x2 = 2
    · rw [if_pos q2] at hr
      refine mz_tin X dX12_says_11 q2 74 (by decide) (by decide) rfl (by decide) ?_
      refine mz_aload_n X dX12_says_74 rfl (mz_at hl 0 rfl) ?_
      refine mz_getR X hH fl_RX12_16 dX12_says_75 hr (fun v6 hr => ?_)
      refine lv_iload_n X.1 X.2.1 dX12_says_78 rfl (mz_at hl 1 rfl) ?_
      refine mz_iald X hH dX12_says_79 hr (fun v7 hr => ?_)
      exact mz_iret Y dX12_says_80 hH hS hc hs hr
    rw [if_neg q2] at hr
    by_cases q3 : x2 = 3
    · rw [if_pos q3] at hr
      refine mz_tin X dX12_says_11 q3 81 (by decide) (by decide) rfl (by decide) ?_
      refine mz_aload_n X dX12_says_81 rfl (mz_at hl 0 rfl) ?_
      refine mz_getR X hH fl_RX12_22 dX12_says_82 hr (fun v8 hr => ?_)
      refine lv_iload_n X.1 X.2.1 dX12_says_85 rfl (mz_at hl 1 rfl) ?_
      refine mz_iald X hH dX12_says_86 hr (fun v9 hr => ?_)
      exact mz_iret Y dX12_says_87 hH hS hc hs hr
    rw [if_neg q3] at hr
    by_cases q4 : x2 = 4
    · rw [if_pos q4] at hr
      refine mz_tin X dX12_says_11 q4 88 (by decide) (by decide) rfl (by decide) ?_
      refine mz_aload_n X dX12_says_88 rfl (mz_at hl 0 rfl) ?_
      refine mz_getR X hH fl_RX12_28 dX12_says_89 hr (fun v10 hr => ?_)
      refine lv_iload_n X.1 X.2.1 dX12_says_92 rfl (mz_at hl 1 rfl) ?_
      refine mz_iald X hH dX12_says_93 hr (fun v11 hr => ?_)
      exact mz_iret Y dX12_says_94 hH hS hc hs hr
    rw [if_neg q4] at hr
    by_cases q5 : x2 = 5
    · rw [if_pos q5] at hr
      refine mz_tin X dX12_says_11 q5 95 (by decide) (by decide) rfl (by decide) ?_
      refine mz_aload_n X dX12_says_95 rfl (mz_at hl 0 rfl) ?_
      refine lv_iload_n X.1 X.2.1 dX12_says_96 rfl (mz_at hl 1 rfl) ?_
      refine mz_kV0 X hH hS hl.1.1 [.int x1] [] hr (ct_X12_findWay l g h a0 x1) mb_RX12_159 rfl im_X12_findWay rfl (Nat.le_of_ble_eq_true rfl) ⟨Nat.le_of_ble_eq_true rfl, Nat.le_of_ble_eq_true rfl⟩ hc hs dX12_says_97 rfl (fun _ h H locs cells slots dc ds hr hH hS hc hs => ?_)
      refine mz_aload_n X dX12_says_100 rfl (mz_at hl 0 rfl) ?_
      refine mz_getI X hH fl_RX12_149 dX12_says_101 hr (fun v12 hr => ?_)
      exact mz_iret Y dX12_says_104 hH hS hc hs hr
    rw [if_neg q5] at hr
    by_cases q6 : x2 = 6
    · rw [if_pos q6] at hr
      refine mz_tin X dX12_says_11 q6 105 (by decide) (by decide) rfl (by decide) ?_
      refine mz_aload_n X dX12_says_105 rfl (mz_at hl 0 rfl) ?_
      refine mz_getR X hH fl_RX12_44 dX12_says_106 hr (fun v13 hr => ?_)
      refine lv_iload_n X.1 X.2.1 dX12_says_109 rfl (mz_at hl 1 rfl) ?_
      refine mz_zald X hH dX12_says_110 hr (fun v14 hr => ?_)
      refine mz_if_eq X 118 dX12_says_111 (by decide) hr (fun hr => ?_) (fun hr => ?_)
      · refine lv_iconst (v := 0) X.1 X.2.1 dX12_says_118 (by decide) ?_
        exact mz_iret Y dX12_says_119 hH hS hc hs hr
      · refine lv_iconst (v := 1) X.1 X.2.1 dX12_says_114 (by decide) ?_
        refine lv_goto (tgt := 119) X.1 X.2.1 dX12_says_115 (by decide) ?_
        exact mz_iret Y dX12_says_119 hH hS hc hs hr
    rw [if_neg q6] at hr
    by_cases q7 : x2 = 7
    · rw [if_pos q7] at hr
      refine mz_tin X dX12_says_11 q7 120 (by decide) (by decide) rfl (by decide) ?_
      refine mz_aload_n X dX12_says_120 rfl (mz_at hl 0 rfl) ?_
      refine lv_iload_n X.1 X.2.1 dX12_says_121 rfl (mz_at hl 1 rfl) ?_
      refine mz_kV Value.int X hH hS hl.1.1 [.int x1] [] hr (ct_X12_cost l g h a0 x1) mb_RX12_166 rfl im_X12_cost rfl (Nat.le_of_ble_eq_true rfl) ⟨Nat.le_of_ble_eq_true rfl, Nat.le_of_ble_eq_true rfl⟩ hc hs dX12_says_122 rfl (fun v15 h H locs cells slots dc ds hr hH hS hc hs => ?_)
      exact mz_iret Y dX12_says_125 hH hS hc hs hr
    rw [if_neg q7] at hr
    by_cases q8 : x2 = 8
    · rw [if_pos q8] at hr
      refine mz_tin X dX12_says_11 q8 126 (by decide) (by decide) rfl (by decide) ?_
      refine lv_iconst (v := 0) X.1 X.2.1 dX12_says_126 (by decide) ?_
      exact mz_iret Y dX12_says_127 hH hS hc hs hr
    rw [if_neg q8] at hr
    have kd : W p l e ({ frames := 2, cells := DC, slots := DS, locals := 49 }) s m args below meth c H locs cells slots (MQ below (mz_Q g h0 (some (Value.int r)) hf) args s DC DS (mz_AF h0)) (F0 m 128 ls []) := by
      refine lv_bipush (v := (-2)) X.1 X.2.1 dX12_says_128 (by decide) ?_
      exact mz_iret Y dX12_says_130 hH hS hc hs hr
    have t0 : ¬ (x2 : Int32).toInt = 0 := fun z => q0 (mz_ti 0 (by decide) z)
    have t1 : ¬ (x2 : Int32).toInt = 1 := fun z => q1 (mz_ti 1 (by decide) z)
    have t2 : ¬ (x2 : Int32).toInt = 2 := fun z => q2 (mz_ti 2 (by decide) z)
    have t3 : ¬ (x2 : Int32).toInt = 3 := fun z => q3 (mz_ti 3 (by decide) z)
    have t4 : ¬ (x2 : Int32).toInt = 4 := fun z => q4 (mz_ti 4 (by decide) z)
    have t5 : ¬ (x2 : Int32).toInt = 5 := fun z => q5 (mz_ti 5 (by decide) z)
    have t6 : ¬ (x2 : Int32).toInt = 6 := fun z => q6 (mz_ti 6 (by decide) z)
    have t7 : ¬ (x2 : Int32).toInt = 7 := fun z => q7 (mz_ti 7 (by decide) z)
    have t8 : ¬ (x2 : Int32).toInt = 8 := fun z => q8 (mz_ti 8 (by decide) z)
    exact mz_tout X dX12_says_11 128 (by omega) (by decide) kd
  · refine lv_iconst (v := (-1)) X.1 X.2.1 dX12_says_8 (by decide) ?_
    exact mz_iret Y dX12_says_9 hH hS hc hs hr
set_option maxRecDepth 100000 in
theorem ct_X12_says (l : Launch) (g : mz_G) (h : mz_H) (a0 : (Option Nat)) (x1 : Int32) (x2 : Int32) (r : Int32) (hf : mz_H) (k n : Nat) (hr : fn_X12_says h a0 x1 x2 = some (r, hf, k, n)) : mz_C l g yX12_says cX12_says 3 (some .int) 2 49 [va_rf a0, .int x1, .int x2] h (some (Value.int r)) hf k n := by
  refine mz_met (as := [(false, va_rf a0), (false, .int x1), (false, .int x2)]) (plainFor_of_name (by decide)) (mz_c1 (mz_cat_rf _) (mz_c1 rfl (mz_c1 rfl mz_c0))) (Nat.le_of_ble_eq_true rfl) ?_
  intro p e s m args below meth c Y
  exact pf_X12_says_b0 r Y h a0 x1 x2 _ _ hr
theorem dX12_way_0 : decode cX12_way 0 = .ok (.aload_n 0, 1) := by decide +kernel
theorem dX12_way_1 : decode cX12_way 1 = .ok (.iload_n 1, 1) := by decide +kernel
theorem dX12_way_2 : decode cX12_way 2 = .ok (.invokevirtual 138, 3) := by decide +kernel
theorem dX12_way_5 : decode cX12_way 5 = .ok (.ifCond .ne 5, 3) := by decide +kernel
theorem dX12_way_8 : decode cX12_way 8 = .ok (.iconst (-1), 1) := by decide +kernel
theorem dX12_way_9 : decode cX12_way 9 = .ok (.ireturn, 1) := by decide +kernel
theorem dX12_way_10 : decode cX12_way 10 = .ok (.aload_n 0, 1) := by decide +kernel
theorem dX12_way_11 : decode cX12_way 11 = .ok (.iload_n 1, 1) := by decide +kernel
theorem dX12_way_12 : decode cX12_way 12 = .ok (.invokevirtual 159, 3) := by decide +kernel
theorem dX12_way_15 : decode cX12_way 15 = .ok (.iload_n 2, 1) := by decide +kernel
theorem dX12_way_16 : decode cX12_way 16 = .ok (.ifCond .lt 20, 3) := by decide +kernel
theorem dX12_way_19 : decode cX12_way 19 = .ok (.iload_n 2, 1) := by decide +kernel
theorem dX12_way_20 : decode cX12_way 20 = .ok (.aload_n 0, 1) := by decide +kernel
theorem dX12_way_21 : decode cX12_way 21 = .ok (.getfield 149, 3) := by decide +kernel
theorem dX12_way_24 : decode cX12_way 24 = .ok (.if_icmp .ge 12, 3) := by decide +kernel
theorem dX12_way_27 : decode cX12_way 27 = .ok (.aload_n 0, 1) := by decide +kernel
theorem dX12_way_28 : decode cX12_way 28 = .ok (.getfield 50, 3) := by decide +kernel
theorem dX12_way_31 : decode cX12_way 31 = .ok (.iload_n 2, 1) := by decide +kernel
theorem dX12_way_32 : decode cX12_way 32 = .ok (.iaload, 1) := by decide +kernel
theorem dX12_way_33 : decode cX12_way 33 = .ok (.goto 5, 3) := by decide +kernel
theorem dX12_way_36 : decode cX12_way 36 = .ok (.bipush (-9), 2) := by decide +kernel
theorem dX12_way_38 : decode cX12_way 38 = .ok (.ireturn, 1) := by decide +kernel
def fn_X12_way (h : mz_H) (a0 : (Option Nat)) (x1 : Int32) (x2 : Int32) : mz_Res Int32 :=
  mz_chk (mz_is h a0 11) <| mz_call (fn_X12_isClass h a0 x1) fun v1 h =>
  if v1 = 0 then
    mz_ret (-1) h
  else
    mz_chk (mz_is h a0 11) <| mz_call (fn_X12_findWay h a0 x1) fun _ h =>
    if x2 < 0 then
      mz_ret (-9) h
    else
      mz_op (mz_fI h a0 11 17) fun v2 =>
      if v2 ≤ x2 then
        mz_ret (-9) h
      else
        mz_op (mz_fR h a0 11 16) fun v3 =>
        mz_op (mz_aI h v3 0 x2) fun v4 =>
        mz_ret v4 h
set_option maxHeartbeats 4000000 in
set_option maxRecDepth 100000 in
theorem pf_X12_way_b0 (r : Int32) (Y : mz_Y p g RX12 cX12_way 3 (some .int) "way" (mz_AF h0) s m args meth c) (h : mz_H) (a0 : (Option Nat)) (x1 : Int32) (x2 : Int32) (dc ds : Nat) (hr : fn_X12_way h a0 x1 x2 = some (r, hf, dc, ds)) : mz_Go l g p e s m args below meth c 2 49 DC DS h0 (some (Value.int r)) hf 3 0 [(0, false, va_rf a0), (1, false, .int x1), (2, false, .int x2)] [] h dc ds := by
  unfold fn_X12_way at hr
  intro H locs cells slots ls hH hS hl hc hs
  have X := Y.1
  refine mz_aload_n X dX12_way_0 rfl (mz_at hl 0 rfl) ?_
  refine lv_iload_n X.1 X.2.1 dX12_way_1 rfl (mz_at hl 1 rfl) ?_
  refine mz_kV Value.int X hH hS hl.1.1 [.int x1] [] hr (ct_X12_isClass l g h a0 x1) mb_RX12_138 rfl im_X12_isClass rfl (Nat.le_of_ble_eq_true rfl) ⟨Nat.le_of_ble_eq_true rfl, Nat.le_of_ble_eq_true rfl⟩ hc hs dX12_way_2 rfl (fun v1 h H locs cells slots dc ds hr hH hS hc hs => ?_)
  refine mz_if_ne X 10 dX12_way_5 (by decide) hr (fun hr => ?_) (fun hr => ?_)
  · refine mz_aload_n X dX12_way_10 rfl (mz_at hl 0 rfl) ?_
    refine lv_iload_n X.1 X.2.1 dX12_way_11 rfl (mz_at hl 1 rfl) ?_
    refine mz_kV0 X hH hS hl.1.1 [.int x1] [] hr (ct_X12_findWay l g h a0 x1) mb_RX12_159 rfl im_X12_findWay rfl (Nat.le_of_ble_eq_true rfl) ⟨Nat.le_of_ble_eq_true rfl, Nat.le_of_ble_eq_true rfl⟩ hc hs dX12_way_12 rfl (fun _ h H locs cells slots dc ds hr hH hS hc hs => ?_)
    refine lv_iload_n X.1 X.2.1 dX12_way_15 rfl (mz_at hl 2 rfl) ?_
    refine mz_if_lt X 36 dX12_way_16 (by decide) hr (fun hr => ?_) (fun hr => ?_)
    · refine lv_bipush (v := (-9)) X.1 X.2.1 dX12_way_36 (by decide) ?_
      exact mz_iret Y dX12_way_38 hH hS hc hs hr
    · refine lv_iload_n X.1 X.2.1 dX12_way_19 rfl (mz_at hl 2 rfl) ?_
      refine mz_aload_n X dX12_way_20 rfl (mz_at hl 0 rfl) ?_
      refine mz_getI X hH fl_RX12_149 dX12_way_21 hr (fun v2 hr => ?_)
      refine mz_icmp_ge X 36 dX12_way_24 (by decide) hr (fun hr => ?_) (fun hr => ?_)
      · refine lv_bipush (v := (-9)) X.1 X.2.1 dX12_way_36 (by decide) ?_
        exact mz_iret Y dX12_way_38 hH hS hc hs hr
      · refine mz_aload_n X dX12_way_27 rfl (mz_at hl 0 rfl) ?_
        refine mz_getR X hH fl_RX12_50 dX12_way_28 hr (fun v3 hr => ?_)
        refine lv_iload_n X.1 X.2.1 dX12_way_31 rfl (mz_at hl 2 rfl) ?_
        refine mz_iald X hH dX12_way_32 hr (fun v4 hr => ?_)
        refine lv_goto (tgt := 38) X.1 X.2.1 dX12_way_33 (by decide) ?_
        exact mz_iret Y dX12_way_38 hH hS hc hs hr
  · refine lv_iconst (v := (-1)) X.1 X.2.1 dX12_way_8 (by decide) ?_
    exact mz_iret Y dX12_way_9 hH hS hc hs hr
set_option maxRecDepth 100000 in
theorem ct_X12_way (l : Launch) (g : mz_G) (h : mz_H) (a0 : (Option Nat)) (x1 : Int32) (x2 : Int32) (r : Int32) (hf : mz_H) (k n : Nat) (hr : fn_X12_way h a0 x1 x2 = some (r, hf, k, n)) : mz_C l g yX12_way cX12_way 3 (some .int) 2 49 [va_rf a0, .int x1, .int x2] h (some (Value.int r)) hf k n := by
  refine mz_met (as := [(false, va_rf a0), (false, .int x1), (false, .int x2)]) (plainFor_of_name (by decide)) (mz_c1 (mz_cat_rf _) (mz_c1 rfl (mz_c1 rfl mz_c0))) (Nat.le_of_ble_eq_true rfl) ?_
  intro p e s m args below meth c Y
  exact pf_X12_way_b0 r Y h a0 x1 x2 _ _ hr
theorem dX12_below_0 : decode cX12_below 0 = .ok (.aload_n 0, 1) := by decide +kernel
theorem dX12_below_1 : decode cX12_below 1 = .ok (.iload_n 1, 1) := by decide +kernel
theorem dX12_below_2 : decode cX12_below 2 = .ok (.invokevirtual 138, 3) := by decide +kernel
theorem dX12_below_5 : decode cX12_below 5 = .ok (.ifCond .eq 11, 3) := by decide +kernel
theorem dX12_below_8 : decode cX12_below 8 = .ok (.aload_n 0, 1) := by decide +kernel
theorem dX12_below_9 : decode cX12_below 9 = .ok (.iload_n 2, 1) := by decide +kernel
theorem dX12_below_10 : decode cX12_below 10 = .ok (.invokevirtual 138, 3) := by decide +kernel
theorem dX12_below_13 : decode cX12_below 13 = .ok (.ifCond .ne 5, 3) := by decide +kernel
theorem dX12_below_16 : decode cX12_below 16 = .ok (.iconst (-1), 1) := by decide +kernel
theorem dX12_below_17 : decode cX12_below 17 = .ok (.ireturn, 1) := by decide +kernel
theorem dX12_below_18 : decode cX12_below 18 = .ok (.aload_n 0, 1) := by decide +kernel
theorem dX12_below_19 : decode cX12_below 19 = .ok (.iload_n 1, 1) := by decide +kernel
theorem dX12_below_20 : decode cX12_below 20 = .ok (.iload_n 2, 1) := by decide +kernel
theorem dX12_below_21 : decode cX12_below 21 = .ok (.invokevirtual 162, 3) := by decide +kernel
theorem dX12_below_24 : decode cX12_below 24 = .ok (.ifCond .eq 7, 3) := by decide +kernel
theorem dX12_below_27 : decode cX12_below 27 = .ok (.iconst 1, 1) := by decide +kernel
theorem dX12_below_28 : decode cX12_below 28 = .ok (.goto 4, 3) := by decide +kernel
theorem dX12_below_31 : decode cX12_below 31 = .ok (.iconst 0, 1) := by decide +kernel
theorem dX12_below_32 : decode cX12_below 32 = .ok (.ireturn, 1) := by decide +kernel
def fn_X12_below (h : mz_H) (a0 : (Option Nat)) (x1 : Int32) (x2 : Int32) : mz_Res Int32 :=
  mz_chk (mz_is h a0 11) <| mz_call (fn_X12_isClass h a0 x1) fun v1 h =>
  if v1 = 0 then
    mz_ret (-1) h
  else
    mz_chk (mz_is h a0 11) <| mz_call (fn_X12_isClass h a0 x2) fun v2 h =>
    if v2 = 0 then
      mz_ret (-1) h
    else
      mz_chk (mz_is h a0 11) <| mz_call (fn_X12_isBelow h a0 x1 x2) fun v3 h =>
      if v3 = 0 then
        mz_ret 0 h
      else
        mz_ret 1 h
set_option maxHeartbeats 4000000 in
set_option maxRecDepth 100000 in
theorem pf_X12_below_b0 (r : Int32) (Y : mz_Y p g RX12 cX12_below 3 (some .int) "below" (mz_AF h0) s m args meth c) (h : mz_H) (a0 : (Option Nat)) (x1 : Int32) (x2 : Int32) (dc ds : Nat) (hr : fn_X12_below h a0 x1 x2 = some (r, hf, dc, ds)) : mz_Go l g p e s m args below meth c 3 71 DC DS h0 (some (Value.int r)) hf 3 0 [(0, false, va_rf a0), (1, false, .int x1), (2, false, .int x2)] [] h dc ds := by
  unfold fn_X12_below at hr
  intro H locs cells slots ls hH hS hl hc hs
  have X := Y.1
  refine mz_aload_n X dX12_below_0 rfl (mz_at hl 0 rfl) ?_
  refine lv_iload_n X.1 X.2.1 dX12_below_1 rfl (mz_at hl 1 rfl) ?_
  refine mz_kV Value.int X hH hS hl.1.1 [.int x1] [] hr (ct_X12_isClass l g h a0 x1) mb_RX12_138 rfl im_X12_isClass rfl (Nat.le_of_ble_eq_true rfl) ⟨Nat.le_of_ble_eq_true rfl, Nat.le_of_ble_eq_true rfl⟩ hc hs dX12_below_2 rfl (fun v1 h H locs cells slots dc ds hr hH hS hc hs => ?_)
  refine mz_if_eq X 16 dX12_below_5 (by decide) hr (fun hr => ?_) (fun hr => ?_)
  · refine lv_iconst (v := (-1)) X.1 X.2.1 dX12_below_16 (by decide) ?_
    exact mz_iret Y dX12_below_17 hH hS hc hs hr
  · refine mz_aload_n X dX12_below_8 rfl (mz_at hl 0 rfl) ?_
    refine lv_iload_n X.1 X.2.1 dX12_below_9 rfl (mz_at hl 2 rfl) ?_
    refine mz_kV Value.int X hH hS hl.1.1 [.int x2] [] hr (ct_X12_isClass l g h a0 x2) mb_RX12_138 rfl im_X12_isClass rfl (Nat.le_of_ble_eq_true rfl) ⟨Nat.le_of_ble_eq_true rfl, Nat.le_of_ble_eq_true rfl⟩ hc hs dX12_below_10 rfl (fun v2 h H locs cells slots dc ds hr hH hS hc hs => ?_)
    refine mz_if_ne X 18 dX12_below_13 (by decide) hr (fun hr => ?_) (fun hr => ?_)
    · refine mz_aload_n X dX12_below_18 rfl (mz_at hl 0 rfl) ?_
      refine lv_iload_n X.1 X.2.1 dX12_below_19 rfl (mz_at hl 1 rfl) ?_
      refine lv_iload_n X.1 X.2.1 dX12_below_20 rfl (mz_at hl 2 rfl) ?_
      refine mz_kV Value.int X hH hS hl.1.1 [.int x1, .int x2] [] hr (ct_X12_isBelow l g h a0 x1 x2) mb_RX12_162 rfl im_X12_isBelow rfl (Nat.le_of_ble_eq_true rfl) ⟨Nat.le_of_ble_eq_true rfl, Nat.le_of_ble_eq_true rfl⟩ hc hs dX12_below_21 rfl (fun v3 h H locs cells slots dc ds hr hH hS hc hs => ?_)
      refine mz_if_eq X 31 dX12_below_24 (by decide) hr (fun hr => ?_) (fun hr => ?_)
      · refine lv_iconst (v := 0) X.1 X.2.1 dX12_below_31 (by decide) ?_
        exact mz_iret Y dX12_below_32 hH hS hc hs hr
      · refine lv_iconst (v := 1) X.1 X.2.1 dX12_below_27 (by decide) ?_
        refine lv_goto (tgt := 32) X.1 X.2.1 dX12_below_28 (by decide) ?_
        exact mz_iret Y dX12_below_32 hH hS hc hs hr
    · refine lv_iconst (v := (-1)) X.1 X.2.1 dX12_below_16 (by decide) ?_
      exact mz_iret Y dX12_below_17 hH hS hc hs hr
set_option maxRecDepth 100000 in
theorem ct_X12_below (l : Launch) (g : mz_G) (h : mz_H) (a0 : (Option Nat)) (x1 : Int32) (x2 : Int32) (r : Int32) (hf : mz_H) (k n : Nat) (hr : fn_X12_below h a0 x1 x2 = some (r, hf, k, n)) : mz_C l g yX12_below cX12_below 3 (some .int) 3 71 [va_rf a0, .int x1, .int x2] h (some (Value.int r)) hf k n := by
  refine mz_met (as := [(false, va_rf a0), (false, .int x1), (false, .int x2)]) (plainFor_of_name (by decide)) (mz_c1 (mz_cat_rf _) (mz_c1 rfl (mz_c1 rfl mz_c0))) (Nat.le_of_ble_eq_true rfl) ?_
  intro p e s m args below meth c Y
  exact pf_X12_below_b0 r Y h a0 x1 x2 _ _ hr
theorem dX12_laneOf_0 : decode cX12_laneOf 0 = .ok (.aload_n 0, 1) := by decide +kernel
theorem dX12_laneOf_1 : decode cX12_laneOf 1 = .ok (.getfield 35, 3) := by decide +kernel
theorem dX12_laneOf_4 : decode cX12_laneOf 4 = .ok (.iload_n 2, 1) := by decide +kernel
theorem dX12_laneOf_5 : decode cX12_laneOf 5 = .ok (.iaload, 1) := by decide +kernel
theorem dX12_laneOf_6 : decode cX12_laneOf 6 = .ok (.bipush 8, 2) := by decide +kernel
theorem dX12_laneOf_8 : decode cX12_laneOf 8 = .ok (.if_icmp .le 24, 3) := by decide +kernel
theorem dX12_laneOf_11 : decode cX12_laneOf 11 = .ok (.aload_n 0, 1) := by decide +kernel
theorem dX12_laneOf_12 : decode cX12_laneOf 12 = .ok (.getfield 25, 3) := by decide +kernel
theorem dX12_laneOf_15 : decode cX12_laneOf 15 = .ok (.iconst 2, 1) := by decide +kernel
theorem dX12_laneOf_16 : decode cX12_laneOf 16 = .ok (.iload_n 1, 1) := by decide +kernel
theorem dX12_laneOf_17 : decode cX12_laneOf 17 = .ok (.imul, 1) := by decide +kernel
theorem dX12_laneOf_18 : decode cX12_laneOf 18 = .ok (.aload_n 0, 1) := by decide +kernel
theorem dX12_laneOf_19 : decode cX12_laneOf 19 = .ok (.getfield 35, 3) := by decide +kernel
theorem dX12_laneOf_22 : decode cX12_laneOf 22 = .ok (.iload_n 2, 1) := by decide +kernel
theorem dX12_laneOf_23 : decode cX12_laneOf 23 = .ok (.iaload, 1) := by decide +kernel
theorem dX12_laneOf_24 : decode cX12_laneOf 24 = .ok (.iadd, 1) := by decide +kernel
theorem dX12_laneOf_25 : decode cX12_laneOf 25 = .ok (.bipush 9, 2) := by decide +kernel
theorem dX12_laneOf_27 : decode cX12_laneOf 27 = .ok (.isub, 1) := by decide +kernel
theorem dX12_laneOf_28 : decode cX12_laneOf 28 = .ok (.iaload, 1) := by decide +kernel
theorem dX12_laneOf_29 : decode cX12_laneOf 29 = .ok (.goto 9, 3) := by decide +kernel
theorem dX12_laneOf_32 : decode cX12_laneOf 32 = .ok (.aload_n 0, 1) := by decide +kernel
theorem dX12_laneOf_33 : decode cX12_laneOf 33 = .ok (.getfield 35, 3) := by decide +kernel
theorem dX12_laneOf_36 : decode cX12_laneOf 36 = .ok (.iload_n 2, 1) := by decide +kernel
theorem dX12_laneOf_37 : decode cX12_laneOf 37 = .ok (.iaload, 1) := by decide +kernel
theorem dX12_laneOf_38 : decode cX12_laneOf 38 = .ok (.ireturn, 1) := by decide +kernel
def fn_X12_laneOf (h : mz_H) (a0 : (Option Nat)) (x1 : Int32) (x2 : Int32) : mz_Res Int32 :=
  mz_op (mz_fR h a0 11 11) fun v1 =>
  mz_op (mz_aI h v1 0 x2) fun v2 =>
  if v2 ≤ 8 then
    mz_op (mz_fR h a0 11 11) fun v3 =>
    mz_op (mz_aI h v3 0 x2) fun v4 =>
    mz_ret v4 h
  else
    mz_op (mz_fR h a0 11 8) fun v5 =>
    mz_op (mz_fR h a0 11 11) fun v6 =>
    mz_op (mz_aI h v6 0 x2) fun v7 =>
    mz_op (mz_aI h v5 0 (((2 * x1) + v7) - 9)) fun v8 =>
    mz_ret v8 h
set_option maxHeartbeats 4000000 in
set_option maxRecDepth 100000 in
theorem pf_X12_laneOf_b0 (r : Int32) (Y : mz_Y p g RX12 cX12_laneOf 3 (some .int) "laneOf" (mz_AF h0) s m args meth c) (h : mz_H) (a0 : (Option Nat)) (x1 : Int32) (x2 : Int32) (dc ds : Nat) (hr : fn_X12_laneOf h a0 x1 x2 = some (r, hf, dc, ds)) : mz_Go l g p e s m args below meth c 0 0 DC DS h0 (some (Value.int r)) hf 3 0 [(0, false, va_rf a0), (1, false, .int x1), (2, false, .int x2)] [] h dc ds := by
  unfold fn_X12_laneOf at hr
  intro H locs cells slots ls hH hS hl hc hs
  have X := Y.1
  refine mz_aload_n X dX12_laneOf_0 rfl (mz_at hl 0 rfl) ?_
  refine mz_getR X hH fl_RX12_35 dX12_laneOf_1 hr (fun v1 hr => ?_)
  refine lv_iload_n X.1 X.2.1 dX12_laneOf_4 rfl (mz_at hl 2 rfl) ?_
  refine mz_iald X hH dX12_laneOf_5 hr (fun v2 hr => ?_)
  refine lv_bipush (v := 8) X.1 X.2.1 dX12_laneOf_6 (by decide) ?_
  refine mz_icmp_le X 32 dX12_laneOf_8 (by decide) hr (fun hr => ?_) (fun hr => ?_)
  · refine mz_aload_n X dX12_laneOf_32 rfl (mz_at hl 0 rfl) ?_
    refine mz_getR X hH fl_RX12_35 dX12_laneOf_33 hr (fun v3 hr => ?_)
    refine lv_iload_n X.1 X.2.1 dX12_laneOf_36 rfl (mz_at hl 2 rfl) ?_
    refine mz_iald X hH dX12_laneOf_37 hr (fun v4 hr => ?_)
    exact mz_iret Y dX12_laneOf_38 hH hS hc hs hr
  · refine mz_aload_n X dX12_laneOf_11 rfl (mz_at hl 0 rfl) ?_
    refine mz_getR X hH fl_RX12_25 dX12_laneOf_12 hr (fun v5 hr => ?_)
    refine lv_iconst (v := 2) X.1 X.2.1 dX12_laneOf_15 (by decide) ?_
    refine lv_iload_n X.1 X.2.1 dX12_laneOf_16 rfl (mz_at hl 1 rfl) ?_
    refine lv_imul X.1 X.2.1 dX12_laneOf_17 ?_
    refine mz_aload_n X dX12_laneOf_18 rfl (mz_at hl 0 rfl) ?_
    refine mz_getR X hH fl_RX12_35 dX12_laneOf_19 hr (fun v6 hr => ?_)
    refine lv_iload_n X.1 X.2.1 dX12_laneOf_22 rfl (mz_at hl 2 rfl) ?_
    refine mz_iald X hH dX12_laneOf_23 hr (fun v7 hr => ?_)
    refine lv_iadd X.1 X.2.1 dX12_laneOf_24 ?_
    refine lv_bipush (v := 9) X.1 X.2.1 dX12_laneOf_25 (by decide) ?_
    refine lv_isub X.1 X.2.1 dX12_laneOf_27 ?_
    refine mz_iald X hH dX12_laneOf_28 hr (fun v8 hr => ?_)
    refine lv_goto (tgt := 38) X.1 X.2.1 dX12_laneOf_29 (by decide) ?_
    exact mz_iret Y dX12_laneOf_38 hH hS hc hs hr
set_option maxRecDepth 100000 in
theorem ct_X12_laneOf (l : Launch) (g : mz_G) (h : mz_H) (a0 : (Option Nat)) (x1 : Int32) (x2 : Int32) (r : Int32) (hf : mz_H) (k n : Nat) (hr : fn_X12_laneOf h a0 x1 x2 = some (r, hf, k, n)) : mz_C l g yX12_laneOf cX12_laneOf 3 (some .int) 0 0 [va_rf a0, .int x1, .int x2] h (some (Value.int r)) hf k n := by
  refine mz_met (as := [(false, va_rf a0), (false, .int x1), (false, .int x2)]) (plainFor_of_name (by decide)) (mz_c1 (mz_cat_rf _) (mz_c1 rfl (mz_c1 rfl mz_c0))) (Nat.le_of_ble_eq_true rfl) ?_
  intro p e s m args below meth c Y
  exact pf_X12_laneOf_b0 r Y h a0 x1 x2 _ _ hr
theorem dX12_breaks_0 : decode cX12_breaks 0 = .ok (.aload_n 0, 1) := by decide +kernel
theorem dX12_breaks_1 : decode cX12_breaks 1 = .ok (.iload_n 1, 1) := by decide +kernel
theorem dX12_breaks_2 : decode cX12_breaks 2 = .ok (.putfield 169, 3) := by decide +kernel
theorem dX12_breaks_5 : decode cX12_breaks 5 = .ok (.aload_n 0, 1) := by decide +kernel
theorem dX12_breaks_6 : decode cX12_breaks 6 = .ok (.iload_n 2, 1) := by decide +kernel
theorem dX12_breaks_7 : decode cX12_breaks 7 = .ok (.putfield 172, 3) := by decide +kernel
theorem dX12_breaks_10 : decode cX12_breaks 10 = .ok (.aload_n 0, 1) := by decide +kernel
theorem dX12_breaks_11 : decode cX12_breaks 11 = .ok (.iload_n 3, 1) := by decide +kernel
theorem dX12_breaks_12 : decode cX12_breaks 12 = .ok (.putfield 175, 3) := by decide +kernel
theorem dX12_breaks_15 : decode cX12_breaks 15 = .ok (.aload_n 0, 1) := by decide +kernel
theorem dX12_breaks_16 : decode cX12_breaks 16 = .ok (.iload 4, 2) := by decide +kernel
theorem dX12_breaks_18 : decode cX12_breaks 18 = .ok (.putfield 178, 3) := by decide +kernel
theorem dX12_breaks_21 : decode cX12_breaks 21 = .ok (.aload_n 0, 1) := by decide +kernel
theorem dX12_breaks_22 : decode cX12_breaks 22 = .ok (.iconst 0, 1) := by decide +kernel
theorem dX12_breaks_23 : decode cX12_breaks 23 = .ok (.putfield 181, 3) := by decide +kernel
theorem dX12_breaks_26 : decode cX12_breaks 26 = .ok (.return_, 1) := by decide +kernel
def fn_X12_breaks (h : mz_H) (a0 : (Option Nat)) (x1 : Int32) (x2 : Int32) (x3 : Int32) (x4 : Int32) : mz_Res Unit :=
  mz_op (mz_pF h a0 11 20 (Value.int x1)) fun h =>
  mz_op (mz_pF h a0 11 21 (Value.int x2)) fun h =>
  mz_op (mz_pF h a0 11 22 (Value.int x3)) fun h =>
  mz_op (mz_pF h a0 11 23 (Value.int x4)) fun h =>
  mz_op (mz_pF h a0 11 24 (Value.int 0)) fun h =>
  mz_ret () h
set_option maxHeartbeats 4000000 in
set_option maxRecDepth 100000 in
theorem pf_X12_breaks_b0 (r : Unit) (Y : mz_Y p g RX12 cX12_breaks 5 none "breaks" (mz_AF h0) s m args meth c) (h : mz_H) (a0 : (Option Nat)) (x1 : Int32) (x2 : Int32) (x3 : Int32) (x4 : Int32) (dc ds : Nat) (hr : fn_X12_breaks h a0 x1 x2 x3 x4 = some (r, hf, dc, ds)) : mz_Go l g p e s m args below meth c 0 0 DC DS h0 none hf 5 0 [(0, false, va_rf a0), (1, false, .int x1), (2, false, .int x2), (3, false, .int x3), (4, false, .int x4)] [] h dc ds := by
  unfold fn_X12_breaks at hr
  intro H locs cells slots ls hH hS hl hc hs
  have X := Y.1
  refine mz_aload_n X dX12_breaks_0 rfl (mz_at hl 0 rfl) ?_
  refine lv_iload_n X.1 X.2.1 dX12_breaks_1 rfl (mz_at hl 1 rfl) ?_
  refine mz_put X hH hS fp_RX12_169 dX12_breaks_2 rfl rfl hr (fun h H locs hr hH hS => ?_)
  refine mz_aload_n X dX12_breaks_5 rfl (mz_at hl 0 rfl) ?_
  refine lv_iload_n X.1 X.2.1 dX12_breaks_6 rfl (mz_at hl 2 rfl) ?_
  refine mz_put X hH hS fp_RX12_172 dX12_breaks_7 rfl rfl hr (fun h H locs hr hH hS => ?_)
  refine mz_aload_n X dX12_breaks_10 rfl (mz_at hl 0 rfl) ?_
  refine lv_iload_n X.1 X.2.1 dX12_breaks_11 rfl (mz_at hl 3 rfl) ?_
  refine mz_put X hH hS fp_RX12_175 dX12_breaks_12 rfl rfl hr (fun h H locs hr hH hS => ?_)
  refine mz_aload_n X dX12_breaks_15 rfl (mz_at hl 0 rfl) ?_
  refine lv_iload X.1 X.2.1 dX12_breaks_16 (mz_at hl 4 rfl) ?_
  refine mz_put X hH hS fp_RX12_178 dX12_breaks_18 rfl rfl hr (fun h H locs hr hH hS => ?_)
  refine mz_aload_n X dX12_breaks_21 rfl (mz_at hl 0 rfl) ?_
  refine lv_iconst (v := 0) X.1 X.2.1 dX12_breaks_22 (by decide) ?_
  refine mz_put X hH hS fp_RX12_181 dX12_breaks_23 rfl rfl hr (fun h H locs hr hH hS => ?_)
  exact mz_vret Y dX12_breaks_26 hH hS hc hs hr
set_option maxRecDepth 100000 in
theorem ct_X12_breaks (l : Launch) (g : mz_G) (h : mz_H) (a0 : (Option Nat)) (x1 : Int32) (x2 : Int32) (x3 : Int32) (x4 : Int32) (r : Unit) (hf : mz_H) (k n : Nat) (hr : fn_X12_breaks h a0 x1 x2 x3 x4 = some (r, hf, k, n)) : mz_C l g yX12_breaks cX12_breaks 5 none 0 0 [va_rf a0, .int x1, .int x2, .int x3, .int x4] h none hf k n := by
  refine mz_met (as := [(false, va_rf a0), (false, .int x1), (false, .int x2), (false, .int x3), (false, .int x4)]) (plainFor_of_name (by decide)) (mz_c1 (mz_cat_rf _) (mz_c1 rfl (mz_c1 rfl (mz_c1 rfl (mz_c1 rfl mz_c0))))) (Nat.le_of_ble_eq_true rfl) ?_
  intro p e s m args below meth c Y
  exact pf_X12_breaks_b0 r Y h a0 x1 x2 x3 x4 _ _ hr
theorem dX12_hasStaticKey_0 : decode cX12_hasStaticKey 0 = .ok (.iconst 0, 1) := by decide +kernel
theorem dX12_hasStaticKey_1 : decode cX12_hasStaticKey 1 = .ok (.istore_n 1, 1) := by decide +kernel
theorem dX12_hasStaticKey_2 : decode cX12_hasStaticKey 2 = .ok (.iload_n 1, 1) := by decide +kernel
theorem dX12_hasStaticKey_3 : decode cX12_hasStaticKey 3 = .ok (.bipush 31, 2) := by decide +kernel
theorem dX12_hasStaticKey_5 : decode cX12_hasStaticKey 5 = .ok (.if_icmp .ge 96, 3) := by decide +kernel
theorem dX12_hasStaticKey_8 : decode cX12_hasStaticKey 8 = .ok (.iconst 0, 1) := by decide +kernel
theorem dX12_hasStaticKey_9 : decode cX12_hasStaticKey 9 = .ok (.istore_n 2, 1) := by decide +kernel
theorem dX12_hasStaticKey_10 : decode cX12_hasStaticKey 10 = .ok (.iload_n 2, 1) := by decide +kernel
theorem dX12_hasStaticKey_11 : decode cX12_hasStaticKey 11 = .ok (.aload_n 0, 1) := by decide +kernel
theorem dX12_hasStaticKey_12 : decode cX12_hasStaticKey 12 = .ok (.getfield 149, 3) := by decide +kernel
theorem dX12_hasStaticKey_15 : decode cX12_hasStaticKey 15 = .ok (.if_icmp .ge 80, 3) := by decide +kernel
theorem dX12_hasStaticKey_18 : decode cX12_hasStaticKey 18 = .ok (.iconst 0, 1) := by decide +kernel
theorem dX12_hasStaticKey_19 : decode cX12_hasStaticKey 19 = .ok (.istore_n 3, 1) := by decide +kernel
theorem dX12_hasStaticKey_20 : decode cX12_hasStaticKey 20 = .ok (.iload_n 3, 1) := by decide +kernel
theorem dX12_hasStaticKey_21 : decode cX12_hasStaticKey 21 = .ok (.iconst 3, 1) := by decide +kernel
theorem dX12_hasStaticKey_22 : decode cX12_hasStaticKey 22 = .ok (.if_icmp .ge 67, 3) := by decide +kernel
theorem dX12_hasStaticKey_25 : decode cX12_hasStaticKey 25 = .ok (.iconst 3, 1) := by decide +kernel
theorem dX12_hasStaticKey_26 : decode cX12_hasStaticKey 26 = .ok (.aload_n 0, 1) := by decide +kernel
theorem dX12_hasStaticKey_27 : decode cX12_hasStaticKey 27 = .ok (.getfield 50, 3) := by decide +kernel
theorem dX12_hasStaticKey_30 : decode cX12_hasStaticKey 30 = .ok (.iload_n 2, 1) := by decide +kernel
theorem dX12_hasStaticKey_31 : decode cX12_hasStaticKey 31 = .ok (.iaload, 1) := by decide +kernel
theorem dX12_hasStaticKey_32 : decode cX12_hasStaticKey 32 = .ok (.imul, 1) := by decide +kernel
theorem dX12_hasStaticKey_33 : decode cX12_hasStaticKey 33 = .ok (.iload_n 3, 1) := by decide +kernel
theorem dX12_hasStaticKey_34 : decode cX12_hasStaticKey 34 = .ok (.iadd, 1) := by decide +kernel
theorem dX12_hasStaticKey_35 : decode cX12_hasStaticKey 35 = .ok (.bipush 31, 2) := by decide +kernel
theorem dX12_hasStaticKey_37 : decode cX12_hasStaticKey 37 = .ok (.imul, 1) := by decide +kernel
theorem dX12_hasStaticKey_38 : decode cX12_hasStaticKey 38 = .ok (.iload_n 1, 1) := by decide +kernel
theorem dX12_hasStaticKey_39 : decode cX12_hasStaticKey 39 = .ok (.iadd, 1) := by decide +kernel
theorem dX12_hasStaticKey_40 : decode cX12_hasStaticKey 40 = .ok (.istore 4, 2) := by decide +kernel
theorem dX12_hasStaticKey_42 : decode cX12_hasStaticKey 42 = .ok (.aload_n 0, 1) := by decide +kernel
theorem dX12_hasStaticKey_43 : decode cX12_hasStaticKey 43 = .ok (.getfield 31, 3) := by decide +kernel
theorem dX12_hasStaticKey_46 : decode cX12_hasStaticKey 46 = .ok (.iload 4, 2) := by decide +kernel
theorem dX12_hasStaticKey_48 : decode cX12_hasStaticKey 48 = .ok (.baload, 1) := by decide +kernel
theorem dX12_hasStaticKey_49 : decode cX12_hasStaticKey 49 = .ok (.ifCond .eq 34, 3) := by decide +kernel
theorem dX12_hasStaticKey_52 : decode cX12_hasStaticKey 52 = .ok (.aload_n 0, 1) := by decide +kernel
theorem dX12_hasStaticKey_53 : decode cX12_hasStaticKey 53 = .ok (.getfield 41, 3) := by decide +kernel
theorem dX12_hasStaticKey_56 : decode cX12_hasStaticKey 56 = .ok (.iload 4, 2) := by decide +kernel
theorem dX12_hasStaticKey_58 : decode cX12_hasStaticKey 58 = .ok (.iaload, 1) := by decide +kernel
theorem dX12_hasStaticKey_59 : decode cX12_hasStaticKey 59 = .ok (.bipush 6, 2) := by decide +kernel
theorem dX12_hasStaticKey_61 : decode cX12_hasStaticKey 61 = .ok (.iand, 1) := by decide +kernel
theorem dX12_hasStaticKey_62 : decode cX12_hasStaticKey 62 = .ok (.bipush 6, 2) := by decide +kernel
theorem dX12_hasStaticKey_64 : decode cX12_hasStaticKey 64 = .ok (.if_icmp .ne 19, 3) := by decide +kernel
theorem dX12_hasStaticKey_67 : decode cX12_hasStaticKey 67 = .ok (.aload_n 0, 1) := by decide +kernel
theorem dX12_hasStaticKey_68 : decode cX12_hasStaticKey 68 = .ok (.iconst 1, 1) := by decide +kernel
theorem dX12_hasStaticKey_69 : decode cX12_hasStaticKey 69 = .ok (.iload_n 1, 1) := by decide +kernel
theorem dX12_hasStaticKey_70 : decode cX12_hasStaticKey 70 = .ok (.aload_n 0, 1) := by decide +kernel
theorem dX12_hasStaticKey_71 : decode cX12_hasStaticKey 71 = .ok (.getfield 50, 3) := by decide +kernel
theorem dX12_hasStaticKey_74 : decode cX12_hasStaticKey 74 = .ok (.iload_n 2, 1) := by decide +kernel
theorem dX12_hasStaticKey_75 : decode cX12_hasStaticKey 75 = .ok (.iaload, 1) := by decide +kernel
theorem dX12_hasStaticKey_76 : decode cX12_hasStaticKey 76 = .ok (.bipush (-9), 2) := by decide +kernel
theorem dX12_hasStaticKey_78 : decode cX12_hasStaticKey 78 = .ok (.invokevirtual 184, 3) := by decide +kernel
theorem dX12_hasStaticKey_81 : decode cX12_hasStaticKey 81 = .ok (.iconst 1, 1) := by decide +kernel
theorem dX12_hasStaticKey_82 : decode cX12_hasStaticKey 82 = .ok (.ireturn, 1) := by decide +kernel
theorem dX12_hasStaticKey_83 : decode cX12_hasStaticKey 83 = .ok (.iinc 3 1, 3) := by decide +kernel
theorem dX12_hasStaticKey_86 : decode cX12_hasStaticKey 86 = .ok (.goto (-66), 3) := by decide +kernel
theorem dX12_hasStaticKey_89 : decode cX12_hasStaticKey 89 = .ok (.iinc 2 1, 3) := by decide +kernel
theorem dX12_hasStaticKey_92 : decode cX12_hasStaticKey 92 = .ok (.goto (-82), 3) := by decide +kernel
theorem dX12_hasStaticKey_95 : decode cX12_hasStaticKey 95 = .ok (.iinc 1 1, 3) := by decide +kernel
theorem dX12_hasStaticKey_98 : decode cX12_hasStaticKey 98 = .ok (.goto (-96), 3) := by decide +kernel
theorem dX12_hasStaticKey_101 : decode cX12_hasStaticKey 101 = .ok (.iconst 0, 1) := by decide +kernel
theorem dX12_hasStaticKey_102 : decode cX12_hasStaticKey 102 = .ok (.ireturn, 1) := by decide +kernel
def fn_X12_hasStaticKey_b83 (rc2 : mz_H → (Option Nat) → Int32 → mz_Res Int32) (rc10 : mz_H → (Option Nat) → Int32 → Int32 → mz_Res Int32) (rc20 : mz_H → (Option Nat) → Int32 → Int32 → Int32 → mz_Res Int32) (h : mz_H) (a0 : (Option Nat)) (x1 : Int32) (x2 : Int32) (x3 : Int32) : mz_Res Int32 :=
  mz_op (some (x3 + 1)) fun v1 =>
  rc20 h a0 x1 x2 v1
set_option maxHeartbeats 4000000 in
set_option maxRecDepth 100000 in
theorem pf_X12_hasStaticKey_b83 (r : Int32) (Y : mz_Y p g RX12 cX12_hasStaticKey 5 (some .boolean) "hasStaticKey" (mz_AF h0) s m args meth c) {rc2 : mz_H → (Option Nat) → Int32 → mz_Res Int32} (hrc2 : ∀ (h : mz_H) (a0 : (Option Nat)) (x1 : Int32) (dc ds : Nat), rc2 h a0 x1 = some (r, hf, dc, ds) → mz_Go l g p e s m args below meth c 1 24 DC DS h0 (some (Value.int r)) hf 5 2 [(0, false, va_rf a0), (1, false, .int x1)] [] h dc ds) {rc10 : mz_H → (Option Nat) → Int32 → Int32 → mz_Res Int32} (hrc10 : ∀ (h : mz_H) (a0 : (Option Nat)) (x1 : Int32) (x2 : Int32) (dc ds : Nat), rc10 h a0 x1 x2 = some (r, hf, dc, ds) → mz_Go l g p e s m args below meth c 1 24 DC DS h0 (some (Value.int r)) hf 5 10 [(0, false, va_rf a0), (1, false, .int x1), (2, false, .int x2)] [] h dc ds) {rc20 : mz_H → (Option Nat) → Int32 → Int32 → Int32 → mz_Res Int32} (hrc20 : ∀ (h : mz_H) (a0 : (Option Nat)) (x1 : Int32) (x2 : Int32) (x3 : Int32) (dc ds : Nat), rc20 h a0 x1 x2 x3 = some (r, hf, dc, ds) → mz_Go l g p e s m args below meth c 1 24 DC DS h0 (some (Value.int r)) hf 5 20 [(0, false, va_rf a0), (1, false, .int x1), (2, false, .int x2), (3, false, .int x3)] [] h dc ds) (h : mz_H) (a0 : (Option Nat)) (x1 : Int32) (x2 : Int32) (x3 : Int32) (dc ds : Nat) (hr : fn_X12_hasStaticKey_b83 rc2 rc10 rc20 h a0 x1 x2 x3 = some (r, hf, dc, ds)) : mz_Go l g p e s m args below meth c 1 24 DC DS h0 (some (Value.int r)) hf 5 83 [(0, false, va_rf a0), (1, false, .int x1), (2, false, .int x2), (3, false, .int x3)] [] h dc ds := by
  unfold fn_X12_hasStaticKey_b83 at hr
  intro H locs cells slots ls hH hS hl hc hs
  have X := Y.1
  obtain ⟨v1, hv1, hr⟩ := mz_op_some hr
  have hv1 := Option.some.inj hv1
  refine mz_iinc (k := 3) X [(3, false, .int v1), (0, false, va_rf a0), (1, false, .int x1), (2, false, .int x2)] v1 dX12_hasStaticKey_83 hl rfl hv1 (by decide) rfl (fun ls hl => ?_)
  refine lv_goto (tgt := 20) X.1 X.2.1 dX12_hasStaticKey_86 (by decide) ?_
  exact hrc20 h a0 x1 x2 v1 _ _ hr H locs cells slots ls hH hS (mz_sub hl [1, 2, 3, 0] rfl) hc hs
def fn_X12_hasStaticKey_b20 (rc2 : mz_H → (Option Nat) → Int32 → mz_Res Int32) (rc10 : mz_H → (Option Nat) → Int32 → Int32 → mz_Res Int32) : Nat → mz_H → (Option Nat) → Int32 → Int32 → Int32 → mz_Res Int32
  | 0, _, _, _, _, _ => none
  | n + 1, h, a0, x1, x2, x3 =>
    if 3 ≤ x3 then
      mz_op (some (x2 + 1)) fun v1 =>
      rc10 h a0 x1 v1
    else
      mz_op (mz_fR h a0 11 16) fun v2 =>
      mz_op (mz_aI h v2 0 x2) fun v3 =>
      mz_op (some ((((3 * v3) + x3) * 31) + x1)) fun v4 =>
      mz_op (mz_fR h a0 11 10) fun v5 =>
      mz_op (mz_aI h v5 2 v4) fun v6 =>
      if v6 = 0 then
        fn_X12_hasStaticKey_b83 rc2 rc10 (fn_X12_hasStaticKey_b20 rc2 rc10 n) h a0 x1 x2 x3
      else
        mz_op (mz_fR h a0 11 13) fun v7 =>
        mz_op (mz_aI h v7 0 v4) fun v8 =>
        if (v8 &&& 6) = 6 then
          mz_op (mz_fR h a0 11 16) fun v9 =>
          mz_op (mz_aI h v9 0 x2) fun v10 =>
          mz_chk (mz_is h a0 11) <| mz_call (fn_X12_breaks h a0 1 x1 v10 (-9)) fun _ h =>
          mz_chk ((1 : Int32) &&& 1 == 1) (mz_ret 1 h)
        else
          fn_X12_hasStaticKey_b83 rc2 rc10 (fn_X12_hasStaticKey_b20 rc2 rc10 n) h a0 x1 x2 x3
set_option maxHeartbeats 4000000 in
set_option maxRecDepth 100000 in
theorem pf_X12_hasStaticKey_b20 (r : Int32) (Y : mz_Y p g RX12 cX12_hasStaticKey 5 (some .boolean) "hasStaticKey" (mz_AF h0) s m args meth c) {rc2 : mz_H → (Option Nat) → Int32 → mz_Res Int32} (hrc2 : ∀ (h : mz_H) (a0 : (Option Nat)) (x1 : Int32) (dc ds : Nat), rc2 h a0 x1 = some (r, hf, dc, ds) → mz_Go l g p e s m args below meth c 1 24 DC DS h0 (some (Value.int r)) hf 5 2 [(0, false, va_rf a0), (1, false, .int x1)] [] h dc ds) {rc10 : mz_H → (Option Nat) → Int32 → Int32 → mz_Res Int32} (hrc10 : ∀ (h : mz_H) (a0 : (Option Nat)) (x1 : Int32) (x2 : Int32) (dc ds : Nat), rc10 h a0 x1 x2 = some (r, hf, dc, ds) → mz_Go l g p e s m args below meth c 1 24 DC DS h0 (some (Value.int r)) hf 5 10 [(0, false, va_rf a0), (1, false, .int x1), (2, false, .int x2)] [] h dc ds) : ∀ (n : Nat) (h : mz_H) (a0 : (Option Nat)) (x1 : Int32) (x2 : Int32) (x3 : Int32) (dc ds : Nat), fn_X12_hasStaticKey_b20 rc2 rc10 n h a0 x1 x2 x3 = some (r, hf, dc, ds) → mz_Go l g p e s m args below meth c 1 24 DC DS h0 (some (Value.int r)) hf 5 20 [(0, false, va_rf a0), (1, false, .int x1), (2, false, .int x2), (3, false, .int x3)] [] h dc ds := by
  have X := Y.1
  intro n
  induction n with
  | zero => intro h a0 x1 x2 x3 dc ds hr; simp [fn_X12_hasStaticKey_b20] at hr
  | succ n ih =>
    intro h a0 x1 x2 x3 dc ds hr
    rw [fn_X12_hasStaticKey_b20] at hr
    intro H locs cells slots ls hH hS hl hc hs
    refine lv_iload_n X.1 X.2.1 dX12_hasStaticKey_20 rfl (mz_at hl 3 rfl) ?_
    refine lv_iconst (v := 3) X.1 X.2.1 dX12_hasStaticKey_21 (by decide) ?_
    refine mz_icmp_ge X 89 dX12_hasStaticKey_22 (by decide) hr (fun hr => ?_) (fun hr => ?_)
    · obtain ⟨v1, hv1, hr⟩ := mz_op_some hr
      have hv1 := Option.some.inj hv1
      refine mz_iinc (k := 2) X [(2, false, .int v1), (0, false, va_rf a0), (1, false, .int x1), (3, false, .int x3)] v1 dX12_hasStaticKey_89 hl rfl hv1 (by decide) rfl (fun ls hl => ?_)
      refine lv_goto (tgt := 10) X.1 X.2.1 dX12_hasStaticKey_92 (by decide) ?_
      exact hrc10 h a0 x1 v1 _ _ hr H locs cells slots ls hH hS (mz_sub hl [1, 2, 0] rfl) hc hs
    · refine lv_iconst (v := 3) X.1 X.2.1 dX12_hasStaticKey_25 (by decide) ?_
      refine mz_aload_n X dX12_hasStaticKey_26 rfl (mz_at hl 0 rfl) ?_
      refine mz_getR X hH fl_RX12_50 dX12_hasStaticKey_27 hr (fun v2 hr => ?_)
      refine lv_iload_n X.1 X.2.1 dX12_hasStaticKey_30 rfl (mz_at hl 2 rfl) ?_
      refine mz_iald X hH dX12_hasStaticKey_31 hr (fun v3 hr => ?_)
      refine lv_imul X.1 X.2.1 dX12_hasStaticKey_32 ?_
      refine lv_iload_n X.1 X.2.1 dX12_hasStaticKey_33 rfl (mz_at hl 3 rfl) ?_
      refine lv_iadd X.1 X.2.1 dX12_hasStaticKey_34 ?_
      refine lv_bipush (v := 31) X.1 X.2.1 dX12_hasStaticKey_35 (by decide) ?_
      refine lv_imul X.1 X.2.1 dX12_hasStaticKey_37 ?_
      refine lv_iload_n X.1 X.2.1 dX12_hasStaticKey_38 rfl (mz_at hl 1 rfl) ?_
      refine lv_iadd X.1 X.2.1 dX12_hasStaticKey_39 ?_
      refine mz_topi hr (fun v4 hv4 hr => ?_)
      refine mz_istore X [(4, false, .int v4), (0, false, va_rf a0), (1, false, .int x1), (2, false, .int x2), (3, false, .int x3)] dX12_hasStaticKey_40 hl (by decide) rfl (fun ls hl => ?_)
      refine mz_aload_n X dX12_hasStaticKey_42 rfl (mz_at hl 1 rfl) ?_
      refine mz_getR X hH fl_RX12_31 dX12_hasStaticKey_43 hr (fun v5 hr => ?_)
      refine lv_iload X.1 X.2.1 dX12_hasStaticKey_46 (mz_at hl 0 rfl) ?_
      refine mz_zald X hH dX12_hasStaticKey_48 hr (fun v6 hr => ?_)
      refine mz_if_eq X 83 dX12_hasStaticKey_49 (by decide) hr (fun hr => ?_) (fun hr => ?_)
      · exact pf_X12_hasStaticKey_b83 r Y hrc2 hrc10 ih h a0 x1 x2 x3 _ _ hr H locs cells slots ls hH hS (mz_sub hl [1, 2, 3, 4] rfl) hc hs
      · refine mz_aload_n X dX12_hasStaticKey_52 rfl (mz_at hl 1 rfl) ?_
        refine mz_getR X hH fl_RX12_41 dX12_hasStaticKey_53 hr (fun v7 hr => ?_)
        refine lv_iload X.1 X.2.1 dX12_hasStaticKey_56 (mz_at hl 0 rfl) ?_
        refine mz_iald X hH dX12_hasStaticKey_58 hr (fun v8 hr => ?_)
        refine lv_bipush (v := 6) X.1 X.2.1 dX12_hasStaticKey_59 (by decide) ?_
        refine lv_iand X.1 X.2.1 dX12_hasStaticKey_61 ?_
        refine lv_bipush (v := 6) X.1 X.2.1 dX12_hasStaticKey_62 (by decide) ?_
        refine mz_icmp_ne X 83 dX12_hasStaticKey_64 (by decide) hr (fun hr => ?_) (fun hr => ?_)
        · exact pf_X12_hasStaticKey_b83 r Y hrc2 hrc10 ih h a0 x1 x2 x3 _ _ hr H locs cells slots ls hH hS (mz_sub hl [1, 2, 3, 4] rfl) hc hs
        · refine mz_aload_n X dX12_hasStaticKey_67 rfl (mz_at hl 1 rfl) ?_
          refine lv_iconst (v := 1) X.1 X.2.1 dX12_hasStaticKey_68 (by decide) ?_
          refine lv_iload_n X.1 X.2.1 dX12_hasStaticKey_69 rfl (mz_at hl 2 rfl) ?_
          refine mz_aload_n X dX12_hasStaticKey_70 rfl (mz_at hl 1 rfl) ?_
          refine mz_getR X hH fl_RX12_50 dX12_hasStaticKey_71 hr (fun v9 hr => ?_)
          refine lv_iload_n X.1 X.2.1 dX12_hasStaticKey_74 rfl (mz_at hl 3 rfl) ?_
          refine mz_iald X hH dX12_hasStaticKey_75 hr (fun v10 hr => ?_)
          refine lv_bipush (v := (-9)) X.1 X.2.1 dX12_hasStaticKey_76 (by decide) ?_
          refine mz_kV0 X hH hS hl.1.1 [.int 1, .int x1, .int v10, .int (-9)] [] hr (ct_X12_breaks l g h a0 1 x1 v10 (-9)) mb_RX12_184 rfl im_X12_breaks rfl (Nat.le_of_ble_eq_true rfl) ⟨Nat.le_of_ble_eq_true rfl, Nat.le_of_ble_eq_true rfl⟩ hc hs dX12_hasStaticKey_78 rfl (fun _ h H locs cells slots dc ds hr hH hS hc hs => ?_)
          refine lv_iconst (v := 1) X.1 X.2.1 dX12_hasStaticKey_81 (by decide) ?_
          exact mz_zret Y dX12_hasStaticKey_82 hH hS hc hs hr
def fn_X12_hasStaticKey_b10 (rc2 : mz_H → (Option Nat) → Int32 → mz_Res Int32) : Nat → mz_H → (Option Nat) → Int32 → Int32 → mz_Res Int32
  | 0, _, _, _, _ => none
  | n + 1, h, a0, x1, x2 =>
    mz_op (mz_fI h a0 11 17) fun v1 =>
    if v1 ≤ x2 then
      mz_op (some (x1 + 1)) fun v2 =>
      rc2 h a0 v2
    else
      fn_X12_hasStaticKey_b20 rc2 (fn_X12_hasStaticKey_b10 rc2 n) 1001 h a0 x1 x2 0
set_option maxHeartbeats 4000000 in
set_option maxRecDepth 100000 in
theorem pf_X12_hasStaticKey_b10 (r : Int32) (Y : mz_Y p g RX12 cX12_hasStaticKey 5 (some .boolean) "hasStaticKey" (mz_AF h0) s m args meth c) {rc2 : mz_H → (Option Nat) → Int32 → mz_Res Int32} (hrc2 : ∀ (h : mz_H) (a0 : (Option Nat)) (x1 : Int32) (dc ds : Nat), rc2 h a0 x1 = some (r, hf, dc, ds) → mz_Go l g p e s m args below meth c 1 24 DC DS h0 (some (Value.int r)) hf 5 2 [(0, false, va_rf a0), (1, false, .int x1)] [] h dc ds) : ∀ (n : Nat) (h : mz_H) (a0 : (Option Nat)) (x1 : Int32) (x2 : Int32) (dc ds : Nat), fn_X12_hasStaticKey_b10 rc2 n h a0 x1 x2 = some (r, hf, dc, ds) → mz_Go l g p e s m args below meth c 1 24 DC DS h0 (some (Value.int r)) hf 5 10 [(0, false, va_rf a0), (1, false, .int x1), (2, false, .int x2)] [] h dc ds := by
  have X := Y.1
  intro n
  induction n with
  | zero => intro h a0 x1 x2 dc ds hr; simp [fn_X12_hasStaticKey_b10] at hr
  | succ n ih =>
    intro h a0 x1 x2 dc ds hr
    rw [fn_X12_hasStaticKey_b10] at hr
    intro H locs cells slots ls hH hS hl hc hs
    refine lv_iload_n X.1 X.2.1 dX12_hasStaticKey_10 rfl (mz_at hl 2 rfl) ?_
    refine mz_aload_n X dX12_hasStaticKey_11 rfl (mz_at hl 0 rfl) ?_
    refine mz_getI X hH fl_RX12_149 dX12_hasStaticKey_12 hr (fun v1 hr => ?_)
    refine mz_icmp_ge X 95 dX12_hasStaticKey_15 (by decide) hr (fun hr => ?_) (fun hr => ?_)
    · obtain ⟨v2, hv2, hr⟩ := mz_op_some hr
      have hv2 := Option.some.inj hv2
      refine mz_iinc (k := 1) X [(1, false, .int v2), (0, false, va_rf a0), (2, false, .int x2)] v2 dX12_hasStaticKey_95 hl rfl hv2 (by decide) rfl (fun ls hl => ?_)
      refine lv_goto (tgt := 2) X.1 X.2.1 dX12_hasStaticKey_98 (by decide) ?_
      exact hrc2 h a0 v2 _ _ hr H locs cells slots ls hH hS (mz_sub hl [1, 0] rfl) hc hs
    · refine lv_iconst (v := 0) X.1 X.2.1 dX12_hasStaticKey_18 (by decide) ?_
      refine mz_istore_n X [(3, false, .int 0), (0, false, va_rf a0), (1, false, .int x1), (2, false, .int x2)] dX12_hasStaticKey_19 rfl hl (by decide) rfl (fun ls hl => ?_)
      exact pf_X12_hasStaticKey_b20 r Y hrc2 ih 1001 h a0 x1 x2 0 _ _ hr H locs cells slots ls hH hS (mz_sub hl [1, 2, 3, 0] rfl) hc hs
def fn_X12_hasStaticKey_b2 : Nat → mz_H → (Option Nat) → Int32 → mz_Res Int32
  | 0, _, _, _ => none
  | n + 1, h, a0, x1 =>
    if 31 ≤ x1 then
      mz_chk ((0 : Int32) &&& 1 == 0) (mz_ret 0 h)
    else
      fn_X12_hasStaticKey_b10 (fn_X12_hasStaticKey_b2 n) 1001 h a0 x1 0
set_option maxHeartbeats 4000000 in
set_option maxRecDepth 100000 in
theorem pf_X12_hasStaticKey_b2 (r : Int32) (Y : mz_Y p g RX12 cX12_hasStaticKey 5 (some .boolean) "hasStaticKey" (mz_AF h0) s m args meth c) : ∀ (n : Nat) (h : mz_H) (a0 : (Option Nat)) (x1 : Int32) (dc ds : Nat), fn_X12_hasStaticKey_b2 n h a0 x1 = some (r, hf, dc, ds) → mz_Go l g p e s m args below meth c 1 24 DC DS h0 (some (Value.int r)) hf 5 2 [(0, false, va_rf a0), (1, false, .int x1)] [] h dc ds := by
  have X := Y.1
  intro n
  induction n with
  | zero => intro h a0 x1 dc ds hr; simp [fn_X12_hasStaticKey_b2] at hr
  | succ n ih =>
    intro h a0 x1 dc ds hr
    rw [fn_X12_hasStaticKey_b2] at hr
    intro H locs cells slots ls hH hS hl hc hs
    refine lv_iload_n X.1 X.2.1 dX12_hasStaticKey_2 rfl (mz_at hl 1 rfl) ?_
    refine lv_bipush (v := 31) X.1 X.2.1 dX12_hasStaticKey_3 (by decide) ?_
    refine mz_icmp_ge X 101 dX12_hasStaticKey_5 (by decide) hr (fun hr => ?_) (fun hr => ?_)
    · refine lv_iconst (v := 0) X.1 X.2.1 dX12_hasStaticKey_101 (by decide) ?_
      exact mz_zret Y dX12_hasStaticKey_102 hH hS hc hs hr
    · refine lv_iconst (v := 0) X.1 X.2.1 dX12_hasStaticKey_8 (by decide) ?_
      refine mz_istore_n X [(2, false, .int 0), (0, false, va_rf a0), (1, false, .int x1)] dX12_hasStaticKey_9 rfl hl (by decide) rfl (fun ls hl => ?_)
      exact pf_X12_hasStaticKey_b10 r Y ih 1001 h a0 x1 0 _ _ hr H locs cells slots ls hH hS (mz_sub hl [1, 2, 0] rfl) hc hs
def fn_X12_hasStaticKey (h : mz_H) (a0 : (Option Nat)) : mz_Res Int32 :=
  fn_X12_hasStaticKey_b2 1001 h a0 0
set_option maxHeartbeats 4000000 in
set_option maxRecDepth 100000 in
theorem pf_X12_hasStaticKey_b0 (r : Int32) (Y : mz_Y p g RX12 cX12_hasStaticKey 5 (some .boolean) "hasStaticKey" (mz_AF h0) s m args meth c) (h : mz_H) (a0 : (Option Nat)) (dc ds : Nat) (hr : fn_X12_hasStaticKey h a0 = some (r, hf, dc, ds)) : mz_Go l g p e s m args below meth c 1 24 DC DS h0 (some (Value.int r)) hf 5 0 [(0, false, va_rf a0)] [] h dc ds := by
  unfold fn_X12_hasStaticKey at hr
  intro H locs cells slots ls hH hS hl hc hs
  have X := Y.1
  refine lv_iconst (v := 0) X.1 X.2.1 dX12_hasStaticKey_0 (by decide) ?_
  refine mz_istore_n X [(1, false, .int 0), (0, false, va_rf a0)] dX12_hasStaticKey_1 rfl hl (by decide) rfl (fun ls hl => ?_)
  exact pf_X12_hasStaticKey_b2 r Y 1001 h a0 0 _ _ hr H locs cells slots ls hH hS (mz_sub hl [1, 0] rfl) hc hs
set_option maxRecDepth 100000 in
theorem ct_X12_hasStaticKey (l : Launch) (g : mz_G) (h : mz_H) (a0 : (Option Nat)) (r : Int32) (hf : mz_H) (k n : Nat) (hr : fn_X12_hasStaticKey h a0 = some (r, hf, k, n)) : mz_C l g yX12_hasStaticKey cX12_hasStaticKey 5 (some .boolean) 1 24 [va_rf a0] h (some (Value.int r)) hf k n := by
  refine mz_met (as := [(false, va_rf a0)]) (plainFor_of_name (by decide)) (mz_c1 (mz_cat_rf _) mz_c0) (Nat.le_of_ble_eq_true rfl) ?_
  intro p e s m args below meth c Y
  exact pf_X12_hasStaticKey_b0 r Y h a0 _ _ hr
end

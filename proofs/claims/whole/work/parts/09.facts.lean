/-! facts of the tables, by their places -/
def RJa : String := "java/util/Arrays"
def RJm : String := "java/lang/Math"
def RJd : String := "java/lang/Double"
def yJ_fillJ : MethodName := ⟨RJa, "fill", "([JJ)V"⟩
abbrev cJ_fillJ : ByteArray := prog_20_method_101_code
def yJ_fillI : MethodName := ⟨RJa, "fill", "([II)V"⟩
abbrev cJ_fillI : ByteArray := prog_20_method_103_code
def yJ_floorMod : MethodName := ⟨RJm, "floorMod", "(JJ)J"⟩
abbrev cJ_floorMod : ByteArray := prog_17_method_52_code
def yJ_isNaN : MethodName := ⟨RJd, "isNaN", "(D)Z"⟩
abbrev cJ_isNaN : ByteArray := prog_16_method_6_code
def yJ_d2l : MethodName := ⟨RJd, "doubleToLongBits", "(D)J"⟩
abbrev cJ_d2l : ByteArray := prog_16_method_23_code
theorem mb_RJd_122 : mz_MB RJd 122 yJ_isNaN cJ_isNaN 2 (some .boolean) 1 := ⟨mz_tb 1314 (by decide +kernel) rfl, mz_tb 55 (by decide +kernel) rfl, mz_tb 1316 (by decide +kernel) rfl, by decide, by decide, by decide +kernel⟩
theorem im_J_isNaN : Cond.static yJ_isNaN ∈ mz_tbl := mz_tb 1315 (by decide +kernel) rfl
theorem mx_RX3_75 : Cond.methodLink RX3 75 Lib.Math.max.name ∈ mz_tbl ∧ Cond.static Lib.Math.max.name ∈ mz_tbl ∧ Cond.initialized "java/lang/Math" ∈ mz_tbl ∧ Cond.code Lib.Math.max.name Lib.Math.max.code 2 (some .int) ∈ mz_tbl := ⟨mz_tb 692 (by decide +kernel) rfl, mz_tb 518 (by decide +kernel) rfl, mz_tb 51 (by decide +kernel) rfl, mz_tb 519 (by decide +kernel) rfl⟩
theorem mb_RX3_66 : mz_MB RX3 66 yX3_lengthOf cX3_lengthOf 3 (some .int) 1 := ⟨mz_tb 696 (by decide +kernel) rfl, mz_tb 53 (by decide +kernel) rfl, mz_tb 698 (by decide +kernel) rfl, by decide, by decide, by decide +kernel⟩
theorem im_X3_lengthOf : Cond.static yX3_lengthOf ∈ mz_tbl := mz_tb 697 (by decide +kernel) rfl
theorem mb_RX3_52 : mz_MB RX3 52 yX3_packed cX3_packed 11 (some .long) 4 := ⟨mz_tb 702 (by decide +kernel) rfl, mz_tb 53 (by decide +kernel) rfl, mz_tb 704 (by decide +kernel) rfl, by decide, by decide, by decide +kernel⟩
theorem im_X3_packed : Cond.static yX3_packed ∈ mz_tbl := mz_tb 703 (by decide +kernel) rfl
theorem mb_RX3_56 : mz_MB RX3 56 yX3_withoutDigits cX3_withoutDigits 9 (some .long) 2 := ⟨mz_tb 699 (by decide +kernel) rfl, mz_tb 53 (by decide +kernel) rfl, mz_tb 701 (by decide +kernel) rfl, by decide, by decide, by decide +kernel⟩
theorem im_X3_withoutDigits : Cond.static yX3_withoutDigits ∈ mz_tbl := mz_tb 700 (by decide +kernel) rfl
theorem mb_RX3_15 : mz_MB RX3 15 yX3_isNotANumber cX3_isNotANumber 2 (some .boolean) 1 := ⟨mz_tb 674 (by decide +kernel) rfl, mz_tb 53 (by decide +kernel) rfl, mz_tb 676 (by decide +kernel) rfl, by decide, by decide, by decide +kernel⟩
theorem im_X3_isNotANumber : Cond.static yX3_isNotANumber ∈ mz_tbl := mz_tb 675 (by decide +kernel) rfl
theorem mb_RX3_60 : mz_MB RX3 60 yX3_isFinite cX3_isFinite 2 (some .boolean) 1 := ⟨mz_tb 680 (by decide +kernel) rfl, mz_tb 53 (by decide +kernel) rfl, mz_tb 682 (by decide +kernel) rfl, by decide, by decide, by decide +kernel⟩
theorem im_X3_isFinite : Cond.static yX3_isFinite ∈ mz_tbl := mz_tb 681 (by decide +kernel) rfl
theorem mb_RX3_46 : mz_MB RX3 46 yX3_digitsOf cX3_digitsOf 4 (some .long) 1 := ⟨mz_tb 684 (by decide +kernel) rfl, mz_tb 53 (by decide +kernel) rfl, mz_tb 686 (by decide +kernel) rfl, by decide, by decide, by decide +kernel⟩
theorem im_X3_digitsOf : Cond.static yX3_digitsOf ∈ mz_tbl := mz_tb 685 (by decide +kernel) rfl
theorem mb_RX3_42 : mz_MB RX3 42 yX3_powerOf cX3_powerOf 3 (some .int) 1 := ⟨mz_tb 689 (by decide +kernel) rfl, mz_tb 53 (by decide +kernel) rfl, mz_tb 691 (by decide +kernel) rfl, by decide, by decide, by decide +kernel⟩
theorem im_X3_powerOf : Cond.static yX3_powerOf ∈ mz_tbl := mz_tb 690 (by decide +kernel) rfl
theorem mb_RX3_38 : mz_MB RX3 38 yX3_rounded cX3_rounded 9 (some .long) 4 := ⟨mz_tb 693 (by decide +kernel) rfl, mz_tb 53 (by decide +kernel) rfl, mz_tb 695 (by decide +kernel) rfl, by decide, by decide, by decide +kernel⟩
theorem im_X3_rounded : Cond.static yX3_rounded ∈ mz_tbl := mz_tb 694 (by decide +kernel) rfl
theorem mb_RX3_9 : mz_MB RX3 9 yX3_toFloat cX3_toFloat 2 (some .long) 1 := ⟨mz_tb 671 (by decide +kernel) rfl, mz_tb 53 (by decide +kernel) rfl, mz_tb 673 (by decide +kernel) rfl, by decide, by decide, by decide +kernel⟩
theorem im_X3_toFloat : Cond.static yX3_toFloat ∈ mz_tbl := mz_tb 672 (by decide +kernel) rfl
theorem mb_RX3_25 : mz_MB RX3 25 yX3_ofWhole cX3_ofWhole 3 (some .long) 2 := ⟨mz_tb 736 (by decide +kernel) rfl, mz_tb 53 (by decide +kernel) rfl, mz_tb 738 (by decide +kernel) rfl, by decide, by decide, by decide +kernel⟩
theorem im_X3_ofWhole : Cond.static yX3_ofWhole ∈ mz_tbl := mz_tb 737 (by decide +kernel) rfl
theorem mb_RX3_35 : mz_MB RX3 35 yX3_inOrder cX3_inOrder 2 (some .long) 1 := ⟨mz_tb 854 (by decide +kernel) rfl, mz_tb 53 (by decide +kernel) rfl, mz_tb 856 (by decide +kernel) rfl, by decide, by decide, by decide +kernel⟩
theorem im_X3_inOrder : Cond.static yX3_inOrder ∈ mz_tbl := mz_tb 855 (by decide +kernel) rfl
theorem mb_RX3_49 : mz_MB RX3 49 yX3_isZero cX3_isZero 2 (some .boolean) 1 := ⟨mz_tb 881 (by decide +kernel) rfl, mz_tb 53 (by decide +kernel) rfl, mz_tb 883 (by decide +kernel) rfl, by decide, by decide, by decide +kernel⟩
theorem im_X3_isZero : Cond.static yX3_isZero ∈ mz_tbl := mz_tb 882 (by decide +kernel) rfl
theorem mb_RX3_63 : mz_MB RX3 63 yX3_shiftedDown cX3_shiftedDown 5 (some .long) 2 := ⟨mz_tb 860 (by decide +kernel) rfl, mz_tb 53 (by decide +kernel) rfl, mz_tb 862 (by decide +kernel) rfl, by decide, by decide, by decide +kernel⟩
theorem im_X3_shiftedDown : Cond.static yX3_shiftedDown ∈ mz_tbl := mz_tb 861 (by decide +kernel) rfl
theorem oi_RX2_1 : Cond.methodLink RX2 1 objectInit ∈ mz_tbl ∧ Cond.instanceMethod objectInit ∈ mz_tbl ∧ Cond.code objectInit ⟨#[0xb1]⟩ 1 none ∈ mz_tbl := ⟨mz_tb 365 (by decide +kernel) rfl, mz_tb 64 (by decide +kernel) rfl, mz_tb 65 (by decide +kernel) rfl⟩
set_option maxRecDepth 20000 in
theorem cl_2 : ∀ w ∈ u_ws RX2 TX2 5, w ∈ mz_tbl := fun w hw => List.mem_filter.mpr ⟨(by decide +kernel : ∀ w ∈ u_ws RX2 TX2 5, w ∈ lw_tbl) w hw, (by decide +kernel : ∀ w ∈ u_ws RX2 TX2 5, goodWord w = true) w hw⟩
theorem fp_RX2_7 : mz_FP RX2 7 2 0 .int true := ⟨_, _, _, tyX2, rfl, by decide, mz_tb 366 (by decide +kernel) rfl, cl_2, tyX2_ok, nmX2, rfl, rfl, fun _ => rfl⟩
theorem fp_RX2_13 : mz_FP RX2 13 2 1 .int true := ⟨_, _, _, tyX2, rfl, by decide, mz_tb 370 (by decide +kernel) rfl, cl_2, tyX2_ok, nmX2, rfl, rfl, fun _ => rfl⟩
theorem fp_RX2_16 : mz_FP RX2 16 2 2 .int true := ⟨_, _, _, tyX2, rfl, by decide, mz_tb 373 (by decide +kernel) rfl, cl_2, tyX2_ok, nmX2, rfl, rfl, fun _ => rfl⟩
theorem fp_RX2_19 : mz_FP RX2 19 2 3 .int true := ⟨_, _, _, tyX2, rfl, by decide, mz_tb 375 (by decide +kernel) rfl, cl_2, tyX2_ok, nmX2, rfl, rfl, fun _ => rfl⟩
theorem fp_RX2_22 : mz_FP RX2 22 2 4 .int true := ⟨_, _, _, tyX2, rfl, by decide, mz_tb 377 (by decide +kernel) rfl, cl_2, tyX2_ok, nmX2, rfl, rfl, fun _ => rfl⟩
theorem fl_RX2_22 : mz_FL RX2 22 2 4 := ⟨_, _, _, rfl, by decide, mz_tb 377 (by decide +kernel) rfl, cl_2⟩
theorem oi_RX1_3 : Cond.methodLink RX1 3 objectInit ∈ mz_tbl ∧ Cond.instanceMethod objectInit ∈ mz_tbl ∧ Cond.code objectInit ⟨#[0xb1]⟩ 1 none ∈ mz_tbl := ⟨mz_tb 107 (by decide +kernel) rfl, mz_tb 64 (by decide +kernel) rfl, mz_tb 65 (by decide +kernel) rfl⟩
set_option maxRecDepth 20000 in
theorem cl_1 : ∀ w ∈ u_ws RX1 TX1 8, w ∈ mz_tbl := fun w hw => List.mem_filter.mpr ⟨(by decide +kernel : ∀ w ∈ u_ws RX1 TX1 8, w ∈ lw_tbl) w hw, (by decide +kernel : ∀ w ∈ u_ws RX1 TX1 8, goodWord w = true) w hw⟩
theorem fp_RX1_9 : mz_FP RX1 9 1 0 .int true := ⟨_, _, _, tyX1, rfl, by decide, mz_tb 108 (by decide +kernel) rfl, cl_1, tyX1_ok, nmX1, rfl, rfl, fun _ => rfl⟩
theorem fp_RX1_15 : mz_FP RX1 15 1 6 .int false := ⟨_, _, _, tyX1, rfl, by decide, mz_tb 127 (by decide +kernel) rfl, cl_1, tyX1_ok, nmX1, rfl, rfl, fun q => by cases q⟩
theorem fp_RX1_18 : mz_FP RX1 18 1 5 .int false := ⟨_, _, _, tyX1, rfl, by decide, mz_tb 124 (by decide +kernel) rfl, cl_1, tyX1_ok, nmX1, rfl, rfl, fun q => by cases q⟩
theorem fp_RX1_21 : mz_FP RX1 21 1 7 .int false := ⟨_, _, _, tyX1, rfl, by decide, mz_tb 130 (by decide +kernel) rfl, cl_1, tyX1_ok, nmX1, rfl, rfl, fun q => by cases q⟩
theorem fl_RX1_18 : mz_FL RX1 18 1 5 := ⟨_, _, _, rfl, by decide, mz_tb 124 (by decide +kernel) rfl, cl_1⟩
theorem fl_RX1_41 : mz_FL RX1 41 2 4 := ⟨_, _, _, rfl, by decide, mz_tb 378 (by decide +kernel) rfl, cl_2⟩
theorem fl_RX1_15 : mz_FL RX1 15 1 6 := ⟨_, _, _, rfl, by decide, mz_tb 127 (by decide +kernel) rfl, cl_1⟩
theorem fl_RX1_21 : mz_FL RX1 21 1 7 := ⟨_, _, _, rfl, by decide, mz_tb 130 (by decide +kernel) rfl, cl_1⟩
theorem fl_RX1_36 : mz_FL RX1 36 1 3 := ⟨_, _, _, rfl, by decide, mz_tb 118 (by decide +kernel) rfl, cl_1⟩
theorem fl_RX1_33 : mz_FL RX1 33 2 2 := ⟨_, _, _, rfl, by decide, mz_tb 374 (by decide +kernel) rfl, cl_2⟩
theorem fl_RX1_40 : mz_FL RX1 40 1 4 := ⟨_, _, _, rfl, by decide, mz_tb 121 (by decide +kernel) rfl, cl_1⟩
theorem fl_RX1_37 : mz_FL RX1 37 2 3 := ⟨_, _, _, rfl, by decide, mz_tb 376 (by decide +kernel) rfl, cl_2⟩
theorem fp_RX1_24 : mz_FP RX1 24 1 1 .int false := ⟨_, _, _, tyX1, rfl, by decide, mz_tb 112 (by decide +kernel) rfl, cl_1, tyX1_ok, nmX1, rfl, rfl, fun q => by cases q⟩
theorem fl_RX1_27 : mz_FL RX1 27 2 0 := ⟨_, _, _, rfl, by decide, mz_tb 367 (by decide +kernel) rfl, cl_2⟩
theorem fp_RX1_32 : mz_FP RX1 32 1 2 .int false := ⟨_, _, _, tyX1, rfl, by decide, mz_tb 115 (by decide +kernel) rfl, cl_1, tyX1_ok, nmX1, rfl, rfl, fun q => by cases q⟩
theorem fp_RX1_36 : mz_FP RX1 36 1 3 .int false := ⟨_, _, _, tyX1, rfl, by decide, mz_tb 118 (by decide +kernel) rfl, cl_1, tyX1_ok, nmX1, rfl, rfl, fun q => by cases q⟩
theorem fp_RX1_40 : mz_FP RX1 40 1 4 .int false := ⟨_, _, _, tyX1, rfl, by decide, mz_tb 121 (by decide +kernel) rfl, cl_1, tyX1_ok, nmX1, rfl, rfl, fun q => by cases q⟩
theorem oi_RX9_3 : Cond.methodLink RX9 3 objectInit ∈ mz_tbl ∧ Cond.instanceMethod objectInit ∈ mz_tbl ∧ Cond.code objectInit ⟨#[0xb1]⟩ 1 none ∈ mz_tbl := ⟨mz_tb 251 (by decide +kernel) rfl, mz_tb 64 (by decide +kernel) rfl, mz_tb 65 (by decide +kernel) rfl⟩
set_option maxRecDepth 20000 in
theorem cl_8 : ∀ w ∈ u_ws RX9 TX9 11, w ∈ mz_tbl := fun w hw => List.mem_filter.mpr ⟨(by decide +kernel : ∀ w ∈ u_ws RX9 TX9 11, w ∈ lw_tbl) w hw, (by decide +kernel : ∀ w ∈ u_ws RX9 TX9 11, goodWord w = true) w hw⟩
theorem fp_RX9_9 : mz_FP RX9 9 8 3 (.array .int) true := ⟨_, _, _, tyX9, rfl, by decide, mz_tb 262 (by decide +kernel) rfl, cl_8, tyX9_ok, nmX9, rfl, rfl, fun _ => rfl⟩
theorem fp_RX9_15 : mz_FP RX9 15 8 5 (.array .int) true := ⟨_, _, _, tyX9, rfl, by decide, mz_tb 268 (by decide +kernel) rfl, cl_8, tyX9_ok, nmX9, rfl, rfl, fun _ => rfl⟩
theorem fp_RX9_20 : mz_FP RX9 20 8 7 (.array (.object "MemberScanner$Member")) true := ⟨_, _, _, tyX9, rfl, by decide, mz_tb 272 (by decide +kernel) rfl, cl_8, tyX9_ok, nmX9, rfl, rfl, fun _ => rfl⟩
theorem fp_RX9_24 : mz_FP RX9 24 8 9 (.array .int) true := ⟨_, _, _, tyX9, rfl, by decide, mz_tb 278 (by decide +kernel) rfl, cl_8, tyX9_ok, nmX9, rfl, rfl, fun _ => rfl⟩
theorem fp_RX9_27 : mz_FP RX9 27 8 0 .int true := ⟨_, _, _, tyX9, rfl, by decide, mz_tb 254 (by decide +kernel) rfl, cl_8, tyX9_ok, nmX9, rfl, rfl, fun _ => rfl⟩
theorem fp_RX9_31 : mz_FP RX9 31 8 1 .int true := ⟨_, _, _, tyX9, rfl, by decide, mz_tb 257 (by decide +kernel) rfl, cl_8, tyX9_ok, nmX9, rfl, rfl, fun _ => rfl⟩
theorem fp_RX9_34 : mz_FP RX9 34 8 2 .int true := ⟨_, _, _, tyX9, rfl, by decide, mz_tb 260 (by decide +kernel) rfl, cl_8, tyX9_ok, nmX9, rfl, rfl, fun _ => rfl⟩
theorem fl_RX9_27 : mz_FL RX9 27 8 0 := ⟨_, _, _, rfl, by decide, mz_tb 254 (by decide +kernel) rfl, cl_8⟩
theorem fl_RX9_37 : mz_FL RX9 37 8 4 := ⟨_, _, _, rfl, by decide, mz_tb 266 (by decide +kernel) rfl, cl_8⟩
theorem fl_RX9_9 : mz_FL RX9 9 8 3 := ⟨_, _, _, rfl, by decide, mz_tb 262 (by decide +kernel) rfl, cl_8⟩
theorem fl_RX9_40 : mz_FL RX9 40 8 8 := ⟨_, _, _, rfl, by decide, mz_tb 275 (by decide +kernel) rfl, cl_8⟩
theorem fl_RX9_20 : mz_FL RX9 20 8 7 := ⟨_, _, _, rfl, by decide, mz_tb 272 (by decide +kernel) rfl, cl_8⟩
theorem fl_RX9_43 : mz_FL RX9 43 2 0 := ⟨_, _, _, rfl, by decide, mz_tb 368 (by decide +kernel) rfl, cl_2⟩
theorem fl_RX9_46 : mz_FL RX9 46 2 1 := ⟨_, _, _, rfl, by decide, mz_tb 371 (by decide +kernel) rfl, cl_2⟩
theorem fl_RX9_49 : mz_FL RX9 49 8 6 := ⟨_, _, _, rfl, by decide, mz_tb 271 (by decide +kernel) rfl, cl_8⟩
theorem fl_RX9_15 : mz_FL RX9 15 8 5 := ⟨_, _, _, rfl, by decide, mz_tb 268 (by decide +kernel) rfl, cl_8⟩
theorem oi_RX10_3 : Cond.methodLink RX10 3 objectInit ∈ mz_tbl ∧ Cond.instanceMethod objectInit ∈ mz_tbl ∧ Cond.code objectInit ⟨#[0xb1]⟩ 1 none ∈ mz_tbl := ⟨mz_tb 71 (by decide +kernel) rfl, mz_tb 64 (by decide +kernel) rfl, mz_tb 65 (by decide +kernel) rfl⟩
set_option maxRecDepth 20000 in
theorem cl_9 : ∀ w ∈ u_ws RX10 TX10 5, w ∈ mz_tbl := fun w hw => List.mem_filter.mpr ⟨(by decide +kernel : ∀ w ∈ u_ws RX10 TX10 5, w ∈ lw_tbl) w hw, (by decide +kernel : ∀ w ∈ u_ws RX10 TX10 5, goodWord w = true) w hw⟩
theorem fp_RX10_11 : mz_FP RX10 11 9 0 (.array (.object "MemberScanner$Type")) true := ⟨_, _, _, tyX10, rfl, by decide, mz_tb 74 (by decide +kernel) rfl, cl_9, tyX10_ok, nmX10, rfl, rfl, fun _ => rfl⟩
theorem fp_RX10_17 : mz_FP RX10 17 9 2 (.array .int) true := ⟨_, _, _, tyX10, rfl, by decide, mz_tb 77 (by decide +kernel) rfl, cl_9, tyX10_ok, nmX10, rfl, rfl, fun _ => rfl⟩
theorem fp_RX10_21 : mz_FP RX10 21 9 4 (.array .boolean) true := ⟨_, _, _, tyX10, rfl, by decide, mz_tb 81 (by decide +kernel) rfl, cl_9, tyX10_ok, nmX10, rfl, rfl, fun _ => rfl⟩
theorem fl_RX10_25 : mz_FL RX10 25 9 1 := ⟨_, _, _, rfl, by decide, mz_tb 75 (by decide +kernel) rfl, cl_9⟩
theorem fl_RX10_11 : mz_FL RX10 11 9 0 := ⟨_, _, _, rfl, by decide, mz_tb 74 (by decide +kernel) rfl, cl_9⟩
theorem fp_RX10_25 : mz_FP RX10 25 9 1 .int false := ⟨_, _, _, tyX10, rfl, by decide, mz_tb 75 (by decide +kernel) rfl, cl_9, tyX10_ok, nmX10, rfl, rfl, fun q => by cases q⟩
theorem mb_RX10_47 : mz_MB RX10 47 yX10_typeOf cX10_typeOf 2 (some (.object "MemberScanner$Type")) 1 := ⟨mz_tb 325 (by decide +kernel) rfl, mz_tb 41 (by decide +kernel) rfl, mz_tb 242 (by decide +kernel) rfl, by decide, by decide, by decide +kernel⟩
theorem im_X10_typeOf : Cond.instanceMethod yX10_typeOf ∈ mz_tbl ∧ Cond.selects RX10 yX10_typeOf yX10_typeOf ∈ mz_tbl := ⟨mz_tb 240 (by decide +kernel) rfl, mz_tb 241 (by decide +kernel) rfl⟩
theorem fl_RX10_21 : mz_FL RX10 21 9 4 := ⟨_, _, _, rfl, by decide, mz_tb 81 (by decide +kernel) rfl, cl_9⟩
theorem fl_RX10_29 : mz_FL RX10 29 9 3 := ⟨_, _, _, rfl, by decide, mz_tb 80 (by decide +kernel) rfl, cl_9⟩
theorem fl_RX10_17 : mz_FL RX10 17 9 2 := ⟨_, _, _, rfl, by decide, mz_tb 77 (by decide +kernel) rfl, cl_9⟩
theorem fp_RX10_29 : mz_FP RX10 29 9 3 .int false := ⟨_, _, _, tyX10, rfl, by decide, mz_tb 80 (by decide +kernel) rfl, cl_9, tyX10_ok, nmX10, rfl, rfl, fun q => by cases q⟩
theorem fl_RX10_55 : mz_FL RX10 55 8 4 := ⟨_, _, _, rfl, by decide, mz_tb 267 (by decide +kernel) rfl, cl_8⟩
theorem fl_RX10_58 : mz_FL RX10 58 8 3 := ⟨_, _, _, rfl, by decide, mz_tb 264 (by decide +kernel) rfl, cl_8⟩
theorem mb_RX10_32 : mz_MB RX10 32 yX10_meet cX10_meet 2 (some .boolean) 1 := ⟨mz_tb 321 (by decide +kernel) rfl, mz_tb 41 (by decide +kernel) rfl, mz_tb 324 (by decide +kernel) rfl, by decide, by decide, by decide +kernel⟩
theorem im_X10_meet : Cond.instanceMethod yX10_meet ∈ mz_tbl ∧ Cond.selects RX10 yX10_meet yX10_meet ∈ mz_tbl := ⟨mz_tb 323 (by decide +kernel) rfl, mz_tb 0 (by decide +kernel) rfl⟩
theorem mb_RX10_39 : mz_MB RX10 39 yX10_meetGuises cX10_meetGuises 5 none 2 := ⟨mz_tb 326 (by decide +kernel) rfl, mz_tb 41 (by decide +kernel) rfl, mz_tb 329 (by decide +kernel) rfl, by decide, by decide, by decide +kernel⟩
theorem im_X10_meetGuises : Cond.instanceMethod yX10_meetGuises ∈ mz_tbl ∧ Cond.selects RX10 yX10_meetGuises yX10_meetGuises ∈ mz_tbl := ⟨mz_tb 328 (by decide +kernel) rfl, mz_tb 1 (by decide +kernel) rfl⟩
theorem fl_RX10_36 : mz_FL RX10 36 8 1 := ⟨_, _, _, rfl, by decide, mz_tb 258 (by decide +kernel) rfl, cl_8⟩
theorem mb_RX10_43 : mz_MB RX10 43 yX10_wayLengthOf cX10_wayLengthOf 5 (some .int) 1 := ⟨mz_tb 317 (by decide +kernel) rfl, mz_tb 41 (by decide +kernel) rfl, mz_tb 320 (by decide +kernel) rfl, by decide, by decide, by decide +kernel⟩
theorem im_X10_wayLengthOf : Cond.instanceMethod yX10_wayLengthOf ∈ mz_tbl ∧ Cond.selects RX10 yX10_wayLengthOf yX10_wayLengthOf ∈ mz_tbl := ⟨mz_tb 318 (by decide +kernel) rfl, mz_tb 319 (by decide +kernel) rfl⟩
theorem fp_RX10_51 : mz_FP RX10 51 8 10 .boolean false := ⟨_, _, _, tyX9, rfl, by decide, mz_tb 280 (by decide +kernel) rfl, cl_8, tyX9_ok, nmX9, rfl, rfl, fun q => by cases q⟩
theorem fl_RX10_51 : mz_FL RX10 51 8 10 := ⟨_, _, _, rfl, by decide, mz_tb 280 (by decide +kernel) rfl, cl_8⟩
theorem oi_RX4_3 : Cond.methodLink RX4 3 objectInit ∈ mz_tbl ∧ Cond.instanceMethod objectInit ∈ mz_tbl ∧ Cond.code objectInit ⟨#[0xb1]⟩ 1 none ∈ mz_tbl := ⟨mz_tb 911 (by decide +kernel) rfl, mz_tb 64 (by decide +kernel) rfl, mz_tb 65 (by decide +kernel) rfl⟩
set_option maxRecDepth 20000 in
theorem cl_3 : ∀ w ∈ u_ws RX4 TX4 2, w ∈ mz_tbl := fun w hw => List.mem_filter.mpr ⟨(by decide +kernel : ∀ w ∈ u_ws RX4 TX4 2, w ∈ lw_tbl) w hw, (by decide +kernel : ∀ w ∈ u_ws RX4 TX4 2, goodWord w = true) w hw⟩
theorem fp_RX4_9 : mz_FP RX4 9 3 0 .int true := ⟨_, _, _, tyX4, rfl, by decide, mz_tb 916 (by decide +kernel) rfl, cl_3, tyX4_ok, nmX4, rfl, rfl, fun _ => rfl⟩
theorem mx_RX4_15 : Cond.methodLink RX4 15 Lib.Math.max.name ∈ mz_tbl ∧ Cond.static Lib.Math.max.name ∈ mz_tbl ∧ Cond.initialized "java/lang/Math" ∈ mz_tbl ∧ Cond.code Lib.Math.max.name Lib.Math.max.code 2 (some .int) ∈ mz_tbl := ⟨mz_tb 912 (by decide +kernel) rfl, mz_tb 518 (by decide +kernel) rfl, mz_tb 51 (by decide +kernel) rfl, mz_tb 519 (by decide +kernel) rfl⟩
theorem fp_RX4_21 : mz_FP RX4 21 3 1 (.array .int) true := ⟨_, _, _, tyX4, rfl, by decide, mz_tb 917 (by decide +kernel) rfl, cl_3, tyX4_ok, nmX4, rfl, rfl, fun _ => rfl⟩
theorem fl_RX4_21 : mz_FL RX4 21 3 1 := ⟨_, _, _, rfl, by decide, mz_tb 917 (by decide +kernel) rfl, cl_3⟩
theorem mb_RX4_25 : mz_MB RX4 25 yJ_fillI cJ_fillI 4 none 2 := ⟨mz_tb 913 (by decide +kernel) rfl, mz_tb 52 (by decide +kernel) rfl, mz_tb 915 (by decide +kernel) rfl, by decide, by decide, by decide +kernel⟩
theorem im_J_fillI : Cond.static yJ_fillI ∈ mz_tbl := mz_tb 914 (by decide +kernel) rfl
theorem fl_RX4_9 : mz_FL RX4 9 3 0 := ⟨_, _, _, rfl, by decide, mz_tb 916 (by decide +kernel) rfl, cl_3⟩
theorem fl_RX4_37 : mz_FL RX4 37 8 0 := ⟨_, _, _, rfl, by decide, mz_tb 255 (by decide +kernel) rfl, cl_8⟩
theorem mb_RX4_31 : mz_MB RX4 31 yX9_isPlainOrRecord cX9_isPlainOrRecord 1 (some .boolean) 0 := ⟨mz_tb 936 (by decide +kernel) rfl, mz_tb 46 (by decide +kernel) rfl, mz_tb 477 (by decide +kernel) rfl, by decide, by decide, by decide +kernel⟩
theorem im_X9_isPlainOrRecord : Cond.instanceMethod yX9_isPlainOrRecord ∈ mz_tbl ∧ Cond.selects RX9 yX9_isPlainOrRecord yX9_isPlainOrRecord ∈ mz_tbl := ⟨mz_tb 475 (by decide +kernel) rfl, mz_tb 476 (by decide +kernel) rfl⟩
theorem oi_RX5_3 : Cond.methodLink RX5 3 objectInit ∈ mz_tbl ∧ Cond.instanceMethod objectInit ∈ mz_tbl ∧ Cond.code objectInit ⟨#[0xb1]⟩ 1 none ∈ mz_tbl := ⟨mz_tb 516 (by decide +kernel) rfl, mz_tb 64 (by decide +kernel) rfl, mz_tb 65 (by decide +kernel) rfl⟩
theorem mx_RX5_9 : Cond.methodLink RX5 9 Lib.Math.max.name ∈ mz_tbl ∧ Cond.static Lib.Math.max.name ∈ mz_tbl ∧ Cond.initialized "java/lang/Math" ∈ mz_tbl ∧ Cond.code Lib.Math.max.name Lib.Math.max.code 2 (some .int) ∈ mz_tbl := ⟨mz_tb 517 (by decide +kernel) rfl, mz_tb 518 (by decide +kernel) rfl, mz_tb 51 (by decide +kernel) rfl, mz_tb 519 (by decide +kernel) rfl⟩
set_option maxRecDepth 20000 in
theorem cl_4 : ∀ w ∈ u_ws RX5 TX5 1, w ∈ mz_tbl := fun w hw => List.mem_filter.mpr ⟨(by decide +kernel : ∀ w ∈ u_ws RX5 TX5 1, w ∈ lw_tbl) w hw, (by decide +kernel : ∀ w ∈ u_ws RX5 TX5 1, goodWord w = true) w hw⟩
theorem fp_RX5_15 : mz_FP RX5 15 4 0 (.array .long) true := ⟨_, _, _, tyX5, rfl, by decide, mz_tb 524 (by decide +kernel) rfl, cl_4, tyX5_ok, nmX5, rfl, rfl, fun _ => rfl⟩
theorem fl_RX5_15 : mz_FL RX5 15 4 0 := ⟨_, _, _, rfl, by decide, mz_tb 524 (by decide +kernel) rfl, cl_4⟩
theorem mb_RX5_23 : mz_MB RX5 23 yJ_fillJ cJ_fillJ 5 none 2 := ⟨mz_tb 521 (by decide +kernel) rfl, mz_tb 52 (by decide +kernel) rfl, mz_tb 523 (by decide +kernel) rfl, by decide, by decide, by decide +kernel⟩
theorem im_J_fillJ : Cond.static yJ_fillJ ∈ mz_tbl := mz_tb 522 (by decide +kernel) rfl
theorem mb_RX5_55 : mz_MB RX5 55 yX3_isZero cX3_isZero 2 (some .boolean) 1 := ⟨mz_tb 894 (by decide +kernel) rfl, mz_tb 53 (by decide +kernel) rfl, mz_tb 883 (by decide +kernel) rfl, by decide, by decide, by decide +kernel⟩
theorem mb_RX5_59 : mz_MB RX5 59 yX3_isFinite cX3_isFinite 2 (some .boolean) 1 := ⟨mz_tb 895 (by decide +kernel) rfl, mz_tb 53 (by decide +kernel) rfl, mz_tb 682 (by decide +kernel) rfl, by decide, by decide, by decide +kernel⟩
theorem mb_RX5_42 : mz_MB RX5 42 yX3_negated cX3_negated 2 (some .long) 1 := ⟨mz_tb 884 (by decide +kernel) rfl, mz_tb 53 (by decide +kernel) rfl, mz_tb 886 (by decide +kernel) rfl, by decide, by decide, by decide +kernel⟩
theorem im_X3_negated : Cond.static yX3_negated ∈ mz_tbl := mz_tb 885 (by decide +kernel) rfl
theorem mb_RX5_45 : mz_MB RX5 45 yX3_sum cX3_sum 15 (some .long) 2 := ⟨mz_tb 887 (by decide +kernel) rfl, mz_tb 53 (by decide +kernel) rfl, mz_tb 859 (by decide +kernel) rfl, by decide, by decide, by decide +kernel⟩
theorem im_X3_sum : Cond.static yX3_sum ∈ mz_tbl := mz_tb 858 (by decide +kernel) rfl
theorem mb_RX5_62 : mz_MB RX5 62 yX3_product cX3_product 23 (some .long) 2 := ⟨mz_tb 896 (by decide +kernel) rfl, mz_tb 53 (by decide +kernel) rfl, mz_tb 898 (by decide +kernel) rfl, by decide, by decide, by decide +kernel⟩
theorem im_X3_product : Cond.static yX3_product ∈ mz_tbl := mz_tb 897 (by decide +kernel) rfl
theorem mb_RX5_38 : mz_MB RX5 38 yX3_floorOf cX3_floorOf 6 (some .long) 1 := ⟨mz_tb 878 (by decide +kernel) rfl, mz_tb 53 (by decide +kernel) rfl, mz_tb 880 (by decide +kernel) rfl, by decide, by decide, by decide +kernel⟩
theorem im_X3_floorOf : Cond.static yX3_floorOf ∈ mz_tbl := mz_tb 879 (by decide +kernel) rfl
theorem mb_RX5_49 : mz_MB RX5 49 yX3_wholeOf cX3_wholeOf 5 (some .long) 1 := ⟨mz_tb 888 (by decide +kernel) rfl, mz_tb 53 (by decide +kernel) rfl, mz_tb 890 (by decide +kernel) rfl, by decide, by decide, by decide +kernel⟩
theorem im_X3_wholeOf : Cond.static yX3_wholeOf ∈ mz_tbl := mz_tb 889 (by decide +kernel) rfl
theorem mb_RX5_52 : mz_MB RX5 52 yJ_floorMod cJ_floorMod 6 (some .long) 2 := ⟨mz_tb 891 (by decide +kernel) rfl, mz_tb 51 (by decide +kernel) rfl, mz_tb 893 (by decide +kernel) rfl, by decide, by decide, by decide +kernel⟩
theorem im_J_floorMod : Cond.static yJ_floorMod ∈ mz_tbl := mz_tb 892 (by decide +kernel) rfl
theorem oi_RX6_3 : Cond.methodLink RX6 3 objectInit ∈ mz_tbl ∧ Cond.instanceMethod objectInit ∈ mz_tbl ∧ Cond.code objectInit ⟨#[0xb1]⟩ 1 none ∈ mz_tbl := ⟨mz_tb 510 (by decide +kernel) rfl, mz_tb 64 (by decide +kernel) rfl, mz_tb 65 (by decide +kernel) rfl⟩
theorem fl_RX6_9 : mz_FL RX6 9 1 0 := ⟨_, _, _, rfl, by decide, mz_tb 109 (by decide +kernel) rfl, cl_1⟩
set_option maxRecDepth 20000 in
theorem cl_5 : ∀ w ∈ u_ws RX6 TX6 6, w ∈ mz_tbl := fun w hw => List.mem_filter.mpr ⟨(by decide +kernel : ∀ w ∈ u_ws RX6 TX6 6, w ∈ lw_tbl) w hw, (by decide +kernel : ∀ w ∈ u_ws RX6 TX6 6, goodWord w = true) w hw⟩
theorem fp_RX6_15 : mz_FP RX6 15 5 0 .int true := ⟨_, _, _, tyX6, rfl, by decide, mz_tb 530 (by decide +kernel) rfl, cl_5, tyX6_ok, nmX6, rfl, rfl, fun _ => rfl⟩
theorem fl_RX6_18 : mz_FL RX6 18 1 3 := ⟨_, _, _, rfl, by decide, mz_tb 117 (by decide +kernel) rfl, cl_1⟩
theorem fp_RX6_21 : mz_FP RX6 21 5 1 .int true := ⟨_, _, _, tyX6, rfl, by decide, mz_tb 533 (by decide +kernel) rfl, cl_5, tyX6_ok, nmX6, rfl, rfl, fun _ => rfl⟩
theorem fl_RX6_22 : mz_FL RX6 22 1 4 := ⟨_, _, _, rfl, by decide, mz_tb 120 (by decide +kernel) rfl, cl_1⟩
theorem fp_RX6_25 : mz_FP RX6 25 5 2 .int true := ⟨_, _, _, tyX6, rfl, by decide, mz_tb 537 (by decide +kernel) rfl, cl_5, tyX6_ok, nmX6, rfl, rfl, fun _ => rfl⟩
theorem fl_RX6_26 : mz_FL RX6 26 1 5 := ⟨_, _, _, rfl, by decide, mz_tb 123 (by decide +kernel) rfl, cl_1⟩
theorem fp_RX6_29 : mz_FP RX6 29 5 3 .int true := ⟨_, _, _, tyX6, rfl, by decide, mz_tb 540 (by decide +kernel) rfl, cl_5, tyX6_ok, nmX6, rfl, rfl, fun _ => rfl⟩
theorem fl_RX6_25 : mz_FL RX6 25 5 2 := ⟨_, _, _, rfl, by decide, mz_tb 537 (by decide +kernel) rfl, cl_5⟩
theorem nw_4 : ∀ j, j < 1 → defaultValue (tyX5 j) = vp_V [.null] j := by decide
theorem fl_RX6_21 : mz_FL RX6 21 5 1 := ⟨_, _, _, rfl, by decide, mz_tb 533 (by decide +kernel) rfl, cl_5⟩
theorem mb_RX6_32 : mz_MB RX6 32 yX5_init cX5_init 3 none 2 := ⟨mz_tb 513 (by decide +kernel) rfl, mz_tb 50 (by decide +kernel) rfl, mz_tb 515 (by decide +kernel) rfl, by decide, by decide, by decide +kernel⟩
theorem im_X5_init : Cond.instanceMethod yX5_init ∈ mz_tbl := mz_tb 514 (by decide +kernel) rfl
theorem fp_RX6_35 : mz_FP RX6 35 5 4 (.object "MemberScanner$Row") false := ⟨_, _, _, tyX6, rfl, by decide, mz_tb 543 (by decide +kernel) rfl, cl_5, tyX6_ok, nmX6, rfl, rfl, fun q => by cases q⟩
theorem fl_RX6_42 : mz_FL RX6 42 5 5 := ⟨_, _, _, rfl, by decide, mz_tb 545 (by decide +kernel) rfl, cl_5⟩
theorem mb_RX6_39 : mz_MB RX6 39 yX5_init_ cX5_init_ 2 none 1 := ⟨mz_tb 777 (by decide +kernel) rfl, mz_tb 50 (by decide +kernel) rfl, mz_tb 779 (by decide +kernel) rfl, by decide, by decide, by decide +kernel⟩
theorem im_X5_init_ : Cond.instanceMethod yX5_init_ ∈ mz_tbl := mz_tb 778 (by decide +kernel) rfl
theorem fp_RX6_42 : mz_FP RX6 42 5 5 (.array (.object "MemberScanner$Row")) false := ⟨_, _, _, tyX6, rfl, by decide, mz_tb 545 (by decide +kernel) rfl, cl_5, tyX6_ok, nmX6, rfl, rfl, fun q => by cases q⟩
theorem fl_RX6_15 : mz_FL RX6 15 5 0 := ⟨_, _, _, rfl, by decide, mz_tb 530 (by decide +kernel) rfl, cl_5⟩
theorem fl_RX6_29 : mz_FL RX6 29 5 3 := ⟨_, _, _, rfl, by decide, mz_tb 540 (by decide +kernel) rfl, cl_5⟩
theorem fl_RX6_35 : mz_FL RX6 35 5 4 := ⟨_, _, _, rfl, by decide, mz_tb 543 (by decide +kernel) rfl, cl_5⟩
theorem mx_RX6_46 : Cond.methodLink RX6 46 Lib.Math.max.name ∈ mz_tbl ∧ Cond.static Lib.Math.max.name ∈ mz_tbl ∧ Cond.initialized "java/lang/Math" ∈ mz_tbl ∧ Cond.code Lib.Math.max.name Lib.Math.max.code 2 (some .int) ∈ mz_tbl := ⟨mz_tb 609 (by decide +kernel) rfl, mz_tb 518 (by decide +kernel) rfl, mz_tb 51 (by decide +kernel) rfl, mz_tb 519 (by decide +kernel) rfl⟩
theorem fl_RX6_52 : mz_FL RX6 52 4 0 := ⟨_, _, _, rfl, by decide, mz_tb 525 (by decide +kernel) rfl, cl_4⟩
theorem mb_RX6_68 : mz_MB RX6 68 yX5_has cX5_has 2 (some .boolean) 1 := ⟨mz_tb 652 (by decide +kernel) rfl, mz_tb 50 (by decide +kernel) rfl, mz_tb 655 (by decide +kernel) rfl, by decide, by decide, by decide +kernel⟩
theorem im_X5_has : Cond.instanceMethod yX5_has ∈ mz_tbl ∧ Cond.selects RX5 yX5_has yX5_has ∈ mz_tbl := ⟨mz_tb 653 (by decide +kernel) rfl, mz_tb 654 (by decide +kernel) rfl⟩
theorem mb_RX6_56 : mz_MB RX6 56 yX6_hasNothing cX6_hasNothing 1 (some .boolean) 0 := ⟨mz_tb 649 (by decide +kernel) rfl, mz_tb 49 (by decide +kernel) rfl, mz_tb 624 (by decide +kernel) rfl, by decide, by decide, by decide +kernel⟩
theorem im_X6_hasNothing : Cond.instanceMethod yX6_hasNothing ∈ mz_tbl ∧ Cond.selects RX6 yX6_hasNothing yX6_hasNothing ∈ mz_tbl := ⟨mz_tb 622 (by decide +kernel) rfl, mz_tb 623 (by decide +kernel) rfl⟩
theorem mb_RX6_60 : mz_MB RX6 60 yX6_length cX6_length 1 (some .int) 0 := ⟨mz_tb 650 (by decide +kernel) rfl, mz_tb 49 (by decide +kernel) rfl, mz_tb 636 (by decide +kernel) rfl, by decide, by decide, by decide +kernel⟩
theorem im_X6_length : Cond.instanceMethod yX6_length ∈ mz_tbl ∧ Cond.selects RX6 yX6_length yX6_length ∈ mz_tbl := ⟨mz_tb 634 (by decide +kernel) rfl, mz_tb 635 (by decide +kernel) rfl⟩
theorem mb_RX6_64 : mz_MB RX6 64 yX6_rowAt cX6_rowAt 2 (some (.object "MemberScanner$Row")) 1 := ⟨mz_tb 651 (by decide +kernel) rfl, mz_tb 49 (by decide +kernel) rfl, mz_tb 640 (by decide +kernel) rfl, by decide, by decide, by decide +kernel⟩
theorem im_X6_rowAt : Cond.instanceMethod yX6_rowAt ∈ mz_tbl ∧ Cond.selects RX6 yX6_rowAt yX6_rowAt ∈ mz_tbl := ⟨mz_tb 638 (by decide +kernel) rfl, mz_tb 639 (by decide +kernel) rfl⟩
theorem mb_RX6_76 : mz_MB RX6 76 yX5_isLike cX5_isLike 3 (some .boolean) 1 := ⟨mz_tb 802 (by decide +kernel) rfl, mz_tb 50 (by decide +kernel) rfl, mz_tb 805 (by decide +kernel) rfl, by decide, by decide, by decide +kernel⟩
theorem im_X5_isLike : Cond.instanceMethod yX5_isLike ∈ mz_tbl ∧ Cond.selects RX5 yX5_isLike yX5_isLike ∈ mz_tbl := ⟨mz_tb 803 (by decide +kernel) rfl, mz_tb 804 (by decide +kernel) rfl⟩
theorem mb_RX6_72 : mz_MB RX6 72 yX6_areLike cX6_areLike 2 (some .boolean) 2 := ⟨mz_tb 799 (by decide +kernel) rfl, mz_tb 49 (by decide +kernel) rfl, mz_tb 801 (by decide +kernel) rfl, by decide, by decide, by decide +kernel⟩
theorem im_X6_areLike : Cond.static yX6_areLike ∈ mz_tbl := mz_tb 800 (by decide +kernel) rfl
set_option maxRecDepth 20000 in
theorem cl_6 : ∀ w ∈ u_ws RX7 TX7 7, w ∈ mz_tbl := fun w hw => List.mem_filter.mpr ⟨(by decide +kernel : ∀ w ∈ u_ws RX7 TX7 7, w ∈ lw_tbl) w hw, (by decide +kernel : ∀ w ∈ u_ws RX7 TX7 7, goodWord w = true) w hw⟩
theorem fl_RX7_11 : mz_FL RX7 11 6 0 := ⟨_, _, _, rfl, by decide, mz_tb 149 (by decide +kernel) rfl, cl_6⟩
theorem nw_1 : ∀ j, j < 8 → defaultValue (tyX1 j) = vp_V [.int 0, .int 0, .int 0, .int 0, .int 0, .int 0, .int 0, .int 0] j := by decide
theorem mb_RX7_30 : mz_MB RX7 30 yX1_init cX1_init 2 none 1 := ⟨mz_tb 104 (by decide +kernel) rfl, mz_tb 43 (by decide +kernel) rfl, mz_tb 106 (by decide +kernel) rfl, by decide, by decide, by decide +kernel⟩
theorem im_X1_init : Cond.instanceMethod yX1_init ∈ mz_tbl := mz_tb 105 (by decide +kernel) rfl
theorem oi_RX7_3 : Cond.methodLink RX7 3 objectInit ∈ mz_tbl ∧ Cond.instanceMethod objectInit ∈ mz_tbl ∧ Cond.code objectInit ⟨#[0xb1]⟩ 1 none ∈ mz_tbl := ⟨mz_tb 100 (by decide +kernel) rfl, mz_tb 64 (by decide +kernel) rfl, mz_tb 65 (by decide +kernel) rfl⟩
theorem fp_RX7_11 : mz_FP RX7 11 6 0 (.array (.object "MemberScanner$Entry")) true := ⟨_, _, _, tyX7, rfl, by decide, mz_tb 149 (by decide +kernel) rfl, cl_6, tyX7_ok, nmX7, rfl, rfl, fun _ => rfl⟩
theorem fp_RX7_17 : mz_FP RX7 17 6 1 (.array (.object "MemberScanner$Entry")) true := ⟨_, _, _, tyX7, rfl, by decide, mz_tb 150 (by decide +kernel) rfl, cl_6, tyX7_ok, nmX7, rfl, rfl, fun _ => rfl⟩
theorem fp_RX7_20 : mz_FP RX7 20 6 4 .int false := ⟨_, _, _, tyX7, rfl, by decide, mz_tb 156 (by decide +kernel) rfl, cl_6, tyX7_ok, nmX7, rfl, rfl, fun q => by cases q⟩
theorem fp_RX7_24 : mz_FP RX7 24 6 5 .int false := ⟨_, _, _, tyX7, rfl, by decide, mz_tb 158 (by decide +kernel) rfl, cl_6, tyX7_ok, nmX7, rfl, rfl, fun q => by cases q⟩
theorem fp_RX7_27 : mz_FP RX7 27 6 6 .int false := ⟨_, _, _, tyX7, rfl, by decide, mz_tb 160 (by decide +kernel) rfl, cl_6, tyX7_ok, nmX7, rfl, rfl, fun q => by cases q⟩
theorem fl_RX7_33 : mz_FL RX7 33 6 2 := ⟨_, _, _, rfl, by decide, mz_tb 152 (by decide +kernel) rfl, cl_6⟩
theorem fl_RX7_17 : mz_FL RX7 17 6 1 := ⟨_, _, _, rfl, by decide, mz_tb 150 (by decide +kernel) rfl, cl_6⟩
theorem fp_RX7_66 : mz_FP RX7 66 6 3 .int false := ⟨_, _, _, tyX7, rfl, by decide, mz_tb 154 (by decide +kernel) rfl, cl_6, tyX7_ok, nmX7, rfl, rfl, fun q => by cases q⟩
theorem mb_RX7_69 : mz_MB RX7 69 yX1_forget cX1_forget 1 none 0 := ⟨mz_tb 419 (by decide +kernel) rfl, mz_tb 43 (by decide +kernel) rfl, mz_tb 422 (by decide +kernel) rfl, by decide, by decide, by decide +kernel⟩
theorem im_X1_forget : Cond.instanceMethod yX1_forget ∈ mz_tbl ∧ Cond.selects RX1 yX1_forget yX1_forget ∈ mz_tbl := ⟨mz_tb 420 (by decide +kernel) rfl, mz_tb 421 (by decide +kernel) rfl⟩
theorem mb_RX7_88 : mz_MB RX7 88 yX2_isMarked cX2_isMarked 2 (some .boolean) 1 := ⟨mz_tb 433 (by decide +kernel) rfl, mz_tb 47 (by decide +kernel) rfl, mz_tb 436 (by decide +kernel) rfl, by decide, by decide, by decide +kernel⟩
theorem im_X2_isMarked : Cond.instanceMethod yX2_isMarked ∈ mz_tbl ∧ Cond.selects RX2 yX2_isMarked yX2_isMarked ∈ mz_tbl := ⟨mz_tb 434 (by decide +kernel) rfl, mz_tb 435 (by decide +kernel) rfl⟩
theorem fl_RX7_92 : mz_FL RX7 92 2 1 := ⟨_, _, _, rfl, by decide, mz_tb 372 (by decide +kernel) rfl, cl_2⟩
theorem mn_X11_isName : mz_MN yX11_isName cX11_isName 1 (some .boolean) 1 := ⟨mz_tb 40 (by decide +kernel) rfl, mz_tb 347 (by decide +kernel) rfl, by decide, by decide, by decide +kernel⟩
theorem im_X11_isName : Cond.static yX11_isName ∈ mz_tbl := mz_tb 346 (by decide +kernel) rfl
theorem mb_RX7_102 : mz_MB RX7 102 yX1_take cX1_take 3 none 2 := ⟨mz_tb 442 (by decide +kernel) rfl, mz_tb 43 (by decide +kernel) rfl, mz_tb 445 (by decide +kernel) rfl, by decide, by decide, by decide +kernel⟩
theorem im_X1_take : Cond.instanceMethod yX1_take ∈ mz_tbl ∧ Cond.selects RX1 yX1_take yX1_take ∈ mz_tbl := ⟨mz_tb 443 (by decide +kernel) rfl, mz_tb 444 (by decide +kernel) rfl⟩
theorem mb_RX7_95 : mz_MB RX7 95 yX7_tell cX7_tell 5 none 4 := ⟨mz_tb 437 (by decide +kernel) rfl, mz_tb 42 (by decide +kernel) rfl, mz_tb 440 (by decide +kernel) rfl, by decide, by decide, by decide +kernel⟩
theorem im_X7_tell : Cond.instanceMethod yX7_tell ∈ mz_tbl ∧ Cond.selects RX7 yX7_tell yX7_tell ∈ mz_tbl := ⟨mz_tb 439 (by decide +kernel) rfl, mz_tb 5 (by decide +kernel) rfl⟩
theorem fl_RX7_66 : mz_FL RX7 66 6 3 := ⟨_, _, _, rfl, by decide, mz_tb 154 (by decide +kernel) rfl, cl_6⟩
theorem fl_RX7_20 : mz_FL RX7 20 6 4 := ⟨_, _, _, rfl, by decide, mz_tb 156 (by decide +kernel) rfl, cl_6⟩
theorem fl_RX7_70 : mz_FL RX7 70 8 8 := ⟨_, _, _, rfl, by decide, mz_tb 276 (by decide +kernel) rfl, cl_8⟩
theorem fl_RX7_75 : mz_FL RX7 75 8 7 := ⟨_, _, _, rfl, by decide, mz_tb 273 (by decide +kernel) rfl, cl_8⟩
theorem fl_RX7_79 : mz_FL RX7 79 2 0 := ⟨_, _, _, rfl, by decide, mz_tb 369 (by decide +kernel) rfl, cl_2⟩
theorem mb_RX7_84 : mz_MB RX7 84 yX7_takeMember cX7_takeMember 3 none 2 := ⟨mz_tb 429 (by decide +kernel) rfl, mz_tb 42 (by decide +kernel) rfl, mz_tb 432 (by decide +kernel) rfl, by decide, by decide, by decide +kernel⟩
theorem im_X7_takeMember : Cond.instanceMethod yX7_takeMember ∈ mz_tbl ∧ Cond.selects RX7 yX7_takeMember yX7_takeMember ∈ mz_tbl := ⟨mz_tb 431 (by decide +kernel) rfl, mz_tb 4 (by decide +kernel) rfl⟩
theorem fl_RX7_105 : mz_FL RX7 105 1 6 := ⟨_, _, _, rfl, by decide, mz_tb 128 (by decide +kernel) rfl, cl_1⟩
theorem fp_RX7_33 : mz_FP RX7 33 6 2 .int false := ⟨_, _, _, tyX7, rfl, by decide, mz_tb 152 (by decide +kernel) rfl, cl_6, tyX7_ok, nmX7, rfl, rfl, fun q => by cases q⟩
theorem fl_RX7_108 : mz_FL RX7 108 1 7 := ⟨_, _, _, rfl, by decide, mz_tb 131 (by decide +kernel) rfl, cl_1⟩
theorem fl_RX7_111 : mz_FL RX7 111 1 0 := ⟨_, _, _, rfl, by decide, mz_tb 110 (by decide +kernel) rfl, cl_1⟩
theorem fl_RX7_112 : mz_FL RX7 112 1 1 := ⟨_, _, _, rfl, by decide, mz_tb 113 (by decide +kernel) rfl, cl_1⟩
theorem fl_RX7_115 : mz_FL RX7 115 1 5 := ⟨_, _, _, rfl, by decide, mz_tb 125 (by decide +kernel) rfl, cl_1⟩
theorem mb_RX7_57 : mz_MB RX7 57 yX7_gather cX7_gather 2 none 0 := ⟨mz_tb 446 (by decide +kernel) rfl, mz_tb 42 (by decide +kernel) rfl, mz_tb 449 (by decide +kernel) rfl, by decide, by decide, by decide +kernel⟩
theorem im_X7_gather : Cond.instanceMethod yX7_gather ∈ mz_tbl ∧ Cond.selects RX7 yX7_gather yX7_gather ∈ mz_tbl := ⟨mz_tb 448 (by decide +kernel) rfl, mz_tb 6 (by decide +kernel) rfl⟩
theorem mb_RX7_60 : mz_MB RX7 60 yX7_lookForClash cX7_lookForClash 2 none 0 := ⟨mz_tb 450 (by decide +kernel) rfl, mz_tb 42 (by decide +kernel) rfl, mz_tb 453 (by decide +kernel) rfl, by decide, by decide, by decide +kernel⟩
theorem im_X7_lookForClash : Cond.instanceMethod yX7_lookForClash ∈ mz_tbl ∧ Cond.selects RX7 yX7_lookForClash yX7_lookForClash ∈ mz_tbl := ⟨mz_tb 452 (by decide +kernel) rfl, mz_tb 7 (by decide +kernel) rfl⟩
theorem mb_RX7_63 : mz_MB RX7 63 yX7_lookForSecondKey cX7_lookForSecondKey 3 none 0 := ⟨mz_tb 454 (by decide +kernel) rfl, mz_tb 42 (by decide +kernel) rfl, mz_tb 457 (by decide +kernel) rfl, by decide, by decide, by decide +kernel⟩
theorem im_X7_lookForSecondKey : Cond.instanceMethod yX7_lookForSecondKey ∈ mz_tbl ∧ Cond.selects RX7 yX7_lookForSecondKey yX7_lookForSecondKey ∈ mz_tbl := ⟨mz_tb 456 (by decide +kernel) rfl, mz_tb 8 (by decide +kernel) rfl⟩
theorem fl_RX7_45 : mz_FL RX7 45 9 2 := ⟨_, _, _, rfl, by decide, mz_tb 78 (by decide +kernel) rfl, cl_9⟩
theorem mb_RX7_49 : mz_MB RX7 49 yX10_typeOf cX10_typeOf 2 (some (.object "MemberScanner$Type")) 1 := ⟨mz_tb 424 (by decide +kernel) rfl, mz_tb 41 (by decide +kernel) rfl, mz_tb 242 (by decide +kernel) rfl, by decide, by decide, by decide +kernel⟩
theorem mb_RX7_53 : mz_MB RX7 53 yX7_takeMembers cX7_takeMembers 5 none 2 := ⟨mz_tb 425 (by decide +kernel) rfl, mz_tb 42 (by decide +kernel) rfl, mz_tb 428 (by decide +kernel) rfl, by decide, by decide, by decide +kernel⟩
theorem im_X7_takeMembers : Cond.instanceMethod yX7_takeMembers ∈ mz_tbl ∧ Cond.selects RX7 yX7_takeMembers yX7_takeMembers ∈ mz_tbl := ⟨mz_tb 427 (by decide +kernel) rfl, mz_tb 3 (by decide +kernel) rfl⟩
theorem mb_RX7_36 : mz_MB RX7 36 yX7_forget cX7_forget 2 none 0 := ⟨mz_tb 415 (by decide +kernel) rfl, mz_tb 42 (by decide +kernel) rfl, mz_tb 418 (by decide +kernel) rfl, by decide, by decide, by decide +kernel⟩
theorem im_X7_forget : Cond.instanceMethod yX7_forget ∈ mz_tbl ∧ Cond.selects RX7 yX7_forget yX7_forget ∈ mz_tbl := ⟨mz_tb 417 (by decide +kernel) rfl, mz_tb 2 (by decide +kernel) rfl⟩
theorem mb_RX7_39 : mz_MB RX7 39 yX10_wayLengthOf cX10_wayLengthOf 5 (some .int) 1 := ⟨mz_tb 423 (by decide +kernel) rfl, mz_tb 41 (by decide +kernel) rfl, mz_tb 320 (by decide +kernel) rfl, by decide, by decide, by decide +kernel⟩
set_option maxRecDepth 20000 in
theorem cl_7 : ∀ w ∈ u_ws RX8 TX8 2, w ∈ mz_tbl := fun w hw => List.mem_filter.mpr ⟨(by decide +kernel : ∀ w ∈ u_ws RX8 TX8 2, w ∈ lw_tbl) w hw, (by decide +kernel : ∀ w ∈ u_ws RX8 TX8 2, goodWord w = true) w hw⟩
theorem fl_RX8_22 : mz_FL RX8 22 7 1 := ⟨_, _, _, rfl, by decide, mz_tb 562 (by decide +kernel) rfl, cl_7⟩
theorem nw_5 : ∀ j, j < 6 → defaultValue (tyX6 j) = vp_V [.int 0, .int 0, .int 0, .int 0, .null, .null] j := by decide
theorem mb_RX8_26 : mz_MB RX8 26 yX7_entryAt cX7_entryAt 2 (some (.object "MemberScanner$Entry")) 1 := ⟨mz_tb 506 (by decide +kernel) rfl, mz_tb 42 (by decide +kernel) rfl, mz_tb 469 (by decide +kernel) rfl, by decide, by decide, by decide +kernel⟩
theorem im_X7_entryAt : Cond.instanceMethod yX7_entryAt ∈ mz_tbl ∧ Cond.selects RX7 yX7_entryAt yX7_entryAt ∈ mz_tbl := ⟨mz_tb 467 (by decide +kernel) rfl, mz_tb 468 (by decide +kernel) rfl⟩
theorem mb_RX8_30 : mz_MB RX8 30 yX6_init cX6_init 2 none 1 := ⟨mz_tb 507 (by decide +kernel) rfl, mz_tb 49 (by decide +kernel) rfl, mz_tb 509 (by decide +kernel) rfl, by decide, by decide, by decide +kernel⟩
theorem im_X6_init : Cond.instanceMethod yX6_init ∈ mz_tbl := mz_tb 508 (by decide +kernel) rfl
theorem oi_RX8_3 : Cond.methodLink RX8 3 objectInit ∈ mz_tbl ∧ Cond.instanceMethod objectInit ∈ mz_tbl ∧ Cond.code objectInit ⟨#[0xb1]⟩ 1 none ∈ mz_tbl := ⟨mz_tb 502 (by decide +kernel) rfl, mz_tb 64 (by decide +kernel) rfl, mz_tb 65 (by decide +kernel) rfl⟩
theorem fp_RX8_9 : mz_FP RX8 9 7 0 .int true := ⟨_, _, _, tyX8, rfl, by decide, mz_tb 560 (by decide +kernel) rfl, cl_7, tyX8_ok, nmX8, rfl, rfl, fun _ => rfl⟩
theorem fl_RX8_15 : mz_FL RX8 15 6 2 := ⟨_, _, _, rfl, by decide, mz_tb 151 (by decide +kernel) rfl, cl_6⟩
theorem fp_RX8_22 : mz_FP RX8 22 7 1 (.array (.object "MemberScanner$Slot")) true := ⟨_, _, _, tyX8, rfl, by decide, mz_tb 562 (by decide +kernel) rfl, cl_7, tyX8_ok, nmX8, rfl, rfl, fun _ => rfl⟩
theorem mb_RX8_33 : mz_MB RX8 33 yX6_init_ cX6_init_ 3 none 1 := ⟨mz_tb 774 (by decide +kernel) rfl, mz_tb 49 (by decide +kernel) rfl, mz_tb 776 (by decide +kernel) rfl, by decide, by decide, by decide +kernel⟩
theorem im_X6_init_ : Cond.instanceMethod yX6_init_ ∈ mz_tbl := mz_tb 775 (by decide +kernel) rfl
theorem fl_RX8_9 : mz_FL RX8 9 7 0 := ⟨_, _, _, rfl, by decide, mz_tb 560 (by decide +kernel) rfl, cl_7⟩
theorem fl_RX8_36 : mz_FL RX8 36 5 0 := ⟨_, _, _, rfl, by decide, mz_tb 531 (by decide +kernel) rfl, cl_5⟩
theorem mb_RX8_39 : mz_MB RX8 39 yX8_slotNumber cX8_slotNumber 3 (some .int) 1 := ⟨mz_tb 761 (by decide +kernel) rfl, mz_tb 48 (by decide +kernel) rfl, mz_tb 588 (by decide +kernel) rfl, by decide, by decide, by decide +kernel⟩
theorem im_X8_slotNumber : Cond.instanceMethod yX8_slotNumber ∈ mz_tbl ∧ Cond.selects RX8 yX8_slotNumber yX8_slotNumber ∈ mz_tbl := ⟨mz_tb 586 (by decide +kernel) rfl, mz_tb 587 (by decide +kernel) rfl⟩
theorem mb_RX8_43 : mz_MB RX8 43 yX8_slotAt cX8_slotAt 2 (some (.object "MemberScanner$Slot")) 1 := ⟨mz_tb 762 (by decide +kernel) rfl, mz_tb 48 (by decide +kernel) rfl, mz_tb 600 (by decide +kernel) rfl, by decide, by decide, by decide +kernel⟩
theorem im_X8_slotAt : Cond.instanceMethod yX8_slotAt ∈ mz_tbl ∧ Cond.selects RX8 yX8_slotAt yX8_slotAt ∈ mz_tbl := ⟨mz_tb 598 (by decide +kernel) rfl, mz_tb 599 (by decide +kernel) rfl⟩
theorem mb_RX8_56 : mz_MB RX8 56 yX6_cellAt cX6_cellAt 5 (some .long) 2 := ⟨mz_tb 814 (by decide +kernel) rfl, mz_tb 49 (by decide +kernel) rfl, mz_tb 659 (by decide +kernel) rfl, by decide, by decide, by decide +kernel⟩
theorem im_X6_cellAt : Cond.instanceMethod yX6_cellAt ∈ mz_tbl ∧ Cond.selects RX6 yX6_cellAt yX6_cellAt ∈ mz_tbl := ⟨mz_tb 657 (by decide +kernel) rfl, mz_tb 658 (by decide +kernel) rfl⟩
theorem fl_RX8_47 : mz_FL RX8 47 5 3 := ⟨_, _, _, rfl, by decide, mz_tb 541 (by decide +kernel) rfl, cl_5⟩
theorem fl_RX8_50 : mz_FL RX8 50 5 2 := ⟨_, _, _, rfl, by decide, mz_tb 538 (by decide +kernel) rfl, cl_5⟩
theorem fl_RX8_53 : mz_FL RX8 53 5 1 := ⟨_, _, _, rfl, by decide, mz_tb 535 (by decide +kernel) rfl, cl_5⟩
theorem mb_RX8_60 : mz_MB RX8 60 yX6_isLike cX6_isLike 4 (some .boolean) 1 := ⟨mz_tb 795 (by decide +kernel) rfl, mz_tb 49 (by decide +kernel) rfl, mz_tb 798 (by decide +kernel) rfl, by decide, by decide, by decide +kernel⟩
theorem im_X6_isLike : Cond.instanceMethod yX6_isLike ∈ mz_tbl ∧ Cond.selects RX6 yX6_isLike yX6_isLike ∈ mz_tbl := ⟨mz_tb 796 (by decide +kernel) rfl, mz_tb 797 (by decide +kernel) rfl⟩
theorem oi_RX0_3 : Cond.methodLink RX0 3 objectInit ∈ mz_tbl ∧ Cond.instanceMethod objectInit ∈ mz_tbl ∧ Cond.code objectInit ⟨#[0xb1]⟩ 1 none ∈ mz_tbl := ⟨mz_tb 184 (by decide +kernel) rfl, mz_tb 64 (by decide +kernel) rfl, mz_tb 65 (by decide +kernel) rfl⟩
set_option maxRecDepth 20000 in
theorem cl_0 : ∀ w ∈ u_ws RX0 TX0 4, w ∈ mz_tbl := fun w hw => List.mem_filter.mpr ⟨(by decide +kernel : ∀ w ∈ u_ws RX0 TX0 4, w ∈ lw_tbl) w hw, (by decide +kernel : ∀ w ∈ u_ws RX0 TX0 4, goodWord w = true) w hw⟩
theorem fp_RX0_9 : mz_FP RX0 9 0 0 (.array .long) true := ⟨_, _, _, tyX0, rfl, by decide, mz_tb 185 (by decide +kernel) rfl, cl_0, tyX0_ok, nmX0, rfl, rfl, fun _ => rfl⟩
theorem fp_RX0_15 : mz_FP RX0 15 0 2 .int false := ⟨_, _, _, tyX0, rfl, by decide, mz_tb 189 (by decide +kernel) rfl, cl_0, tyX0_ok, nmX0, rfl, rfl, fun q => by cases q⟩
theorem fp_RX0_19 : mz_FP RX0 19 0 1 .int false := ⟨_, _, _, tyX0, rfl, by decide, mz_tb 187 (by decide +kernel) rfl, cl_0, tyX0_ok, nmX0, rfl, rfl, fun q => by cases q⟩
theorem fp_RX0_22 : mz_FP RX0 22 0 3 .boolean false := ⟨_, _, _, tyX0, rfl, by decide, mz_tb 190 (by decide +kernel) rfl, cl_0, tyX0_ok, nmX0, rfl, rfl, fun q => by cases q⟩
theorem fl_RX0_26 : mz_FL RX0 26 5 1 := ⟨_, _, _, rfl, by decide, mz_tb 534 (by decide +kernel) rfl, cl_5⟩
theorem fl_RX0_15 : mz_FL RX0 15 0 2 := ⟨_, _, _, rfl, by decide, mz_tb 189 (by decide +kernel) rfl, cl_0⟩
theorem mb_RX0_29 : mz_MB RX0 29 yX3_widens cX3_widens 2 (some .boolean) 2 := ⟨mz_tb 831 (by decide +kernel) rfl, mz_tb 53 (by decide +kernel) rfl, mz_tb 730 (by decide +kernel) rfl, by decide, by decide, by decide +kernel⟩
theorem im_X3_widens : Cond.static yX3_widens ∈ mz_tbl := mz_tb 729 (by decide +kernel) rfl
theorem fl_RX0_19 : mz_FL RX0 19 0 1 := ⟨_, _, _, rfl, by decide, mz_tb 187 (by decide +kernel) rfl, cl_0⟩
theorem fl_RX0_9 : mz_FL RX0 9 0 0 := ⟨_, _, _, rfl, by decide, mz_tb 185 (by decide +kernel) rfl, cl_0⟩
theorem mb_RX0_35 : mz_MB RX0 35 yX6_cellAt cX6_cellAt 5 (some .long) 2 := ⟨mz_tb 832 (by decide +kernel) rfl, mz_tb 49 (by decide +kernel) rfl, mz_tb 659 (by decide +kernel) rfl, by decide, by decide, by decide +kernel⟩
theorem mb_RX0_39 : mz_MB RX0 39 yX3_widened cX3_widened 5 (some .long) 3 := ⟨mz_tb 833 (by decide +kernel) rfl, mz_tb 53 (by decide +kernel) rfl, mz_tb 735 (by decide +kernel) rfl, by decide, by decide, by decide +kernel⟩
theorem im_X3_widened : Cond.static yX3_widened ∈ mz_tbl := mz_tb 734 (by decide +kernel) rfl
theorem mb_RX0_57 : mz_MB RX0 57 yX3_isLess cX3_isLess 4 (some .boolean) 2 := ⟨mz_tb 851 (by decide +kernel) rfl, mz_tb 53 (by decide +kernel) rfl, mz_tb 853 (by decide +kernel) rfl, by decide, by decide, by decide +kernel⟩
theorem im_X3_isLess : Cond.static yX3_isLess ∈ mz_tbl := mz_tb 852 (by decide +kernel) rfl
theorem mb_RX0_61 : mz_MB RX0 61 yX3_sum cX3_sum 15 (some .long) 2 := ⟨mz_tb 857 (by decide +kernel) rfl, mz_tb 53 (by decide +kernel) rfl, mz_tb 859 (by decide +kernel) rfl, by decide, by decide, by decide +kernel⟩
theorem mb_RX0_65 : mz_MB RX0 65 yX3_nearestWhole cX3_nearestWhole 3 (some .long) 1 := ⟨mz_tb 863 (by decide +kernel) rfl, mz_tb 53 (by decide +kernel) rfl, mz_tb 865 (by decide +kernel) rfl, by decide, by decide, by decide +kernel⟩
theorem im_X3_nearestWhole : Cond.static yX3_nearestWhole ∈ mz_tbl := mz_tb 864 (by decide +kernel) rfl
theorem mb_RX0_49 : mz_MB RX0 49 yX0_joined cX0_joined 5 (some .long) 3 := ⟨mz_tb 848 (by decide +kernel) rfl, mz_tb 44 (by decide +kernel) rfl, mz_tb 850 (by decide +kernel) rfl, by decide, by decide, by decide +kernel⟩
theorem im_X0_joined : Cond.static yX0_joined ∈ mz_tbl := mz_tb 849 (by decide +kernel) rfl
theorem mb_RX0_53 : mz_MB RX0 53 yX3_ofWhole cX3_ofWhole 3 (some .long) 2 := ⟨mz_tb 866 (by decide +kernel) rfl, mz_tb 53 (by decide +kernel) rfl, mz_tb 738 (by decide +kernel) rfl, by decide, by decide, by decide +kernel⟩
theorem mb_RX0_45 : mz_MB RX0 45 yX3_isFinite cX3_isFinite 2 (some .boolean) 1 := ⟨mz_tb 847 (by decide +kernel) rfl, mz_tb 53 (by decide +kernel) rfl, mz_tb 682 (by decide +kernel) rfl, by decide, by decide, by decide +kernel⟩
theorem oi_RX11_1 : Cond.methodLink RX11 1 objectInit ∈ mz_tbl ∧ Cond.instanceMethod objectInit ∈ mz_tbl ∧ Cond.code objectInit ⟨#[0xb1]⟩ 1 none ∈ mz_tbl := ⟨mz_tb 63 (by decide +kernel) rfl, mz_tb 64 (by decide +kernel) rfl, mz_tb 65 (by decide +kernel) rfl⟩
theorem nw_9 : ∀ j, j < 5 → defaultValue (tyX10 j) = vp_V [.null, .int 0, .null, .int 0, .null] j := by decide
theorem mn_X10_init : mz_MN yX10_init cX10_init 1 none 0 := ⟨mz_tb 41 (by decide +kernel) rfl, mz_tb 70 (by decide +kernel) rfl, by decide, by decide, by decide +kernel⟩
theorem im_X10_init : Cond.instanceMethod yX10_init ∈ mz_tbl := mz_tb 69 (by decide +kernel) rfl
set_option maxRecDepth 20000 in
theorem cl_10 : ∀ w ∈ u_ws RX11 TX11 10, w ∈ mz_tbl := fun w hw => List.mem_filter.mpr ⟨(by decide +kernel : ∀ w ∈ u_ws RX11 TX11 10, w ∈ lw_tbl) w hw, (by decide +kernel : ∀ w ∈ u_ws RX11 TX11 10, goodWord w = true) w hw⟩
theorem fp_RX11_10 : mz_FP RX11 10 10 0 (.object "MemberScanner$Types") true := ⟨_, _, _, tyX11, rfl, by decide, mz_tb 204 (by decide +kernel) rfl, cl_10, tyX11_ok, nmX11, rfl, rfl, fun _ => rfl⟩
theorem nw_6 : ∀ j, j < 7 → defaultValue (tyX7 j) = vp_V [.null, .null, .int 0, .int 0, .int 0, .int 0, .int 0] j := by decide
theorem mb_RX11_18 : mz_MB RX11 18 yX7_init cX7_init 2 none 0 := ⟨mz_tb 97 (by decide +kernel) rfl, mz_tb 42 (by decide +kernel) rfl, mz_tb 99 (by decide +kernel) rfl, by decide, by decide, by decide +kernel⟩
theorem im_X7_init : Cond.instanceMethod yX7_init ∈ mz_tbl := mz_tb 98 (by decide +kernel) rfl
theorem fp_RX11_19 : mz_FP RX11 19 10 1 (.object "MemberScanner$Table") true := ⟨_, _, _, tyX11, rfl, by decide, mz_tb 205 (by decide +kernel) rfl, cl_10, tyX11_ok, nmX11, rfl, rfl, fun _ => rfl⟩
theorem fp_RX11_23 : mz_FP RX11 23 10 2 (.object "MemberScanner$Table") true := ⟨_, _, _, tyX11, rfl, by decide, mz_tb 206 (by decide +kernel) rfl, cl_10, tyX11_ok, nmX11, rfl, rfl, fun _ => rfl⟩
theorem fp_RX11_28 : mz_FP RX11 28 10 3 (.array (.object "MemberScanner$Thing")) true := ⟨_, _, _, tyX11, rfl, by decide, mz_tb 207 (by decide +kernel) rfl, cl_10, tyX11_ok, nmX11, rfl, rfl, fun _ => rfl⟩
theorem nw_0 : ∀ j, j < 4 → defaultValue (tyX0 j) = vp_V [.null, .int 0, .int 0, .int 0] j := by decide
theorem mn_X0_init : mz_MN yX0_init cX0_init 1 none 0 := ⟨mz_tb 44 (by decide +kernel) rfl, mz_tb 183 (by decide +kernel) rfl, by decide, by decide, by decide +kernel⟩
theorem im_X0_init : Cond.instanceMethod yX0_init ∈ mz_tbl := mz_tb 182 (by decide +kernel) rfl
theorem fp_RX11_35 : mz_FP RX11 35 10 5 (.object "MemberScanner$Column") false := ⟨_, _, _, tyX11, rfl, by decide, mz_tb 209 (by decide +kernel) rfl, cl_10, tyX11_ok, nmX11, rfl, rfl, fun q => by cases q⟩
theorem fp_RX11_39 : mz_FP RX11 39 10 6 (.object "MemberScanner$Column") false := ⟨_, _, _, tyX11, rfl, by decide, mz_tb 210 (by decide +kernel) rfl, cl_10, tyX11_ok, nmX11, rfl, rfl, fun q => by cases q⟩
theorem fp_RX11_44 : mz_FP RX11 44 10 7 (.array (.object "MemberScanner$Roster")) true := ⟨_, _, _, tyX11, rfl, by decide, mz_tb 211 (by decide +kernel) rfl, cl_10, tyX11_ok, nmX11, rfl, rfl, fun _ => rfl⟩
theorem fl_RX11_72 : mz_FL RX11 72 8 0 := ⟨_, _, _, rfl, by decide, mz_tb 256 (by decide +kernel) rfl, cl_8⟩
theorem fl_RX11_10 : mz_FL RX11 10 10 0 := ⟨_, _, _, rfl, by decide, mz_tb 204 (by decide +kernel) rfl, cl_10⟩
theorem fl_RX11_62 : mz_FL RX11 62 9 1 := ⟨_, _, _, rfl, by decide, mz_tb 76 (by decide +kernel) rfl, cl_9⟩
theorem nw_8 : ∀ j, j < 11 → defaultValue (tyX9 j) = vp_V [.int 0, .int 0, .int 0, .null, .int 0, .null, .int 0, .null, .int 0, .null, .int 0] j := by decide
theorem mb_RX11_65 : mz_MB RX11 65 yX9_init cX9_init 4 none 3 := ⟨mz_tb 248 (by decide +kernel) rfl, mz_tb 46 (by decide +kernel) rfl, mz_tb 250 (by decide +kernel) rfl, by decide, by decide, by decide +kernel⟩
theorem im_X9_init : Cond.instanceMethod yX9_init ∈ mz_tbl := mz_tb 249 (by decide +kernel) rfl
theorem mb_RX11_68 : mz_MB RX11 68 yX10_add cX10_add 2 (some .int) 1 := ⟨mz_tb 305 (by decide +kernel) rfl, mz_tb 41 (by decide +kernel) rfl, mz_tb 308 (by decide +kernel) rfl, by decide, by decide, by decide +kernel⟩
theorem im_X10_add : Cond.instanceMethod yX10_add ∈ mz_tbl ∧ Cond.selects RX10 yX10_add yX10_add ∈ mz_tbl := ⟨mz_tb 306 (by decide +kernel) rfl, mz_tb 307 (by decide +kernel) rfl⟩
theorem mb_RX11_52 : mz_MB RX11 52 yX11_mayBeParent cX11_mayBeParent 3 (some .boolean) 2 := ⟨mz_tb 243 (by decide +kernel) rfl, mz_tb 40 (by decide +kernel) rfl, mz_tb 245 (by decide +kernel) rfl, by decide, by decide, by decide +kernel⟩
theorem im_X11_mayBeParent : Cond.static yX11_mayBeParent ∈ mz_tbl := mz_tb 244 (by decide +kernel) rfl
theorem fl_RX11_56 : mz_FL RX11 56 8 2 := ⟨_, _, _, rfl, by decide, mz_tb 261 (by decide +kernel) rfl, cl_8⟩
theorem mb_RX11_48 : mz_MB RX11 48 yX10_typeOf cX10_typeOf 2 (some (.object "MemberScanner$Type")) 1 := ⟨mz_tb 239 (by decide +kernel) rfl, mz_tb 41 (by decide +kernel) rfl, mz_tb 242 (by decide +kernel) rfl, by decide, by decide, by decide +kernel⟩
theorem mb_RX11_75 : mz_MB RX11 75 yX10_isBelow cX10_isBelow 3 (some .boolean) 2 := ⟨mz_tb 313 (by decide +kernel) rfl, mz_tb 41 (by decide +kernel) rfl, mz_tb 316 (by decide +kernel) rfl, by decide, by decide, by decide +kernel⟩
theorem im_X10_isBelow : Cond.instanceMethod yX10_isBelow ∈ mz_tbl ∧ Cond.selects RX10 yX10_isBelow yX10_isBelow ∈ mz_tbl := ⟨mz_tb 314 (by decide +kernel) rfl, mz_tb 315 (by decide +kernel) rfl⟩
theorem mb_RX11_79 : mz_MB RX11 79 yX9_hasGuise cX9_hasGuise 3 (some .boolean) 1 := ⟨mz_tb 330 (by decide +kernel) rfl, mz_tb 46 (by decide +kernel) rfl, mz_tb 333 (by decide +kernel) rfl, by decide, by decide, by decide +kernel⟩
theorem im_X9_hasGuise : Cond.instanceMethod yX9_hasGuise ∈ mz_tbl ∧ Cond.selects RX9 yX9_hasGuise yX9_hasGuise ∈ mz_tbl := ⟨mz_tb 331 (by decide +kernel) rfl, mz_tb 332 (by decide +kernel) rfl⟩
theorem fl_RX11_83 : mz_FL RX11 83 8 4 := ⟨_, _, _, rfl, by decide, mz_tb 265 (by decide +kernel) rfl, cl_8⟩
theorem fl_RX11_86 : mz_FL RX11 86 8 3 := ⟨_, _, _, rfl, by decide, mz_tb 263 (by decide +kernel) rfl, cl_8⟩
theorem fp_RX11_83 : mz_FP RX11 83 8 4 .int false := ⟨_, _, _, tyX9, rfl, by decide, mz_tb 265 (by decide +kernel) rfl, cl_8, tyX9_ok, nmX9, rfl, rfl, fun q => by cases q⟩
theorem mb_RX11_90 : mz_MB RX11 90 yX11_isNumberLane cX11_isNumberLane 1 (some .boolean) 1 := ⟨mz_tb 338 (by decide +kernel) rfl, mz_tb 40 (by decide +kernel) rfl, mz_tb 340 (by decide +kernel) rfl, by decide, by decide, by decide +kernel⟩
theorem im_X11_isNumberLane : Cond.static yX11_isNumberLane ∈ mz_tbl := mz_tb 339 (by decide +kernel) rfl
theorem fl_RX11_93 : mz_FL RX11 93 8 6 := ⟨_, _, _, rfl, by decide, mz_tb 270 (by decide +kernel) rfl, cl_8⟩
theorem fl_RX11_96 : mz_FL RX11 96 8 5 := ⟨_, _, _, rfl, by decide, mz_tb 269 (by decide +kernel) rfl, cl_8⟩
theorem fp_RX11_93 : mz_FP RX11 93 8 6 .int false := ⟨_, _, _, tyX9, rfl, by decide, mz_tb 270 (by decide +kernel) rfl, cl_8, tyX9_ok, nmX9, rfl, rfl, fun q => by cases q⟩
theorem mb_RX11_99 : mz_MB RX11 99 yX11_isName cX11_isName 1 (some .boolean) 1 := ⟨mz_tb 345 (by decide +kernel) rfl, mz_tb 40 (by decide +kernel) rfl, mz_tb 347 (by decide +kernel) rfl, by decide, by decide, by decide +kernel⟩
theorem mb_RX11_102 : mz_MB RX11 102 yX9_laneMeant cX9_laneMeant 3 (some .int) 1 := ⟨mz_tb 348 (by decide +kernel) rfl, mz_tb 46 (by decide +kernel) rfl, mz_tb 351 (by decide +kernel) rfl, by decide, by decide, by decide +kernel⟩
theorem im_X9_laneMeant : Cond.instanceMethod yX9_laneMeant ∈ mz_tbl ∧ Cond.selects RX9 yX9_laneMeant yX9_laneMeant ∈ mz_tbl := ⟨mz_tb 349 (by decide +kernel) rfl, mz_tb 350 (by decide +kernel) rfl⟩
theorem mb_RX11_106 : mz_MB RX11 106 yX9_mayHave cX9_mayHave 3 (some .boolean) 2 := ⟨mz_tb 352 (by decide +kernel) rfl, mz_tb 46 (by decide +kernel) rfl, mz_tb 355 (by decide +kernel) rfl, by decide, by decide, by decide +kernel⟩
theorem im_X9_mayHave : Cond.instanceMethod yX9_mayHave ∈ mz_tbl ∧ Cond.selects RX9 yX9_mayHave yX9_mayHave ∈ mz_tbl := ⟨mz_tb 353 (by decide +kernel) rfl, mz_tb 354 (by decide +kernel) rfl⟩
theorem mb_RX11_109 : mz_MB RX11 109 yX9_hasMember cX9_hasMember 4 (some .boolean) 2 := ⟨mz_tb 356 (by decide +kernel) rfl, mz_tb 46 (by decide +kernel) rfl, mz_tb 359 (by decide +kernel) rfl, by decide, by decide, by decide +kernel⟩
theorem im_X9_hasMember : Cond.instanceMethod yX9_hasMember ∈ mz_tbl ∧ Cond.selects RX9 yX9_hasMember yX9_hasMember ∈ mz_tbl := ⟨mz_tb 357 (by decide +kernel) rfl, mz_tb 358 (by decide +kernel) rfl⟩
theorem fl_RX11_112 : mz_FL RX11 112 8 8 := ⟨_, _, _, rfl, by decide, mz_tb 277 (by decide +kernel) rfl, cl_8⟩
theorem fl_RX11_115 : mz_FL RX11 115 8 7 := ⟨_, _, _, rfl, by decide, mz_tb 274 (by decide +kernel) rfl, cl_8⟩
theorem nw_2 : ∀ j, j < 5 → defaultValue (tyX2 j) = vp_V [.int 0, .int 0, .int 0, .int 0, .int 0] j := by decide
theorem mb_RX11_121 : mz_MB RX11 121 yX2_init cX2_init 6 none 5 := ⟨mz_tb 362 (by decide +kernel) rfl, mz_tb 47 (by decide +kernel) rfl, mz_tb 364 (by decide +kernel) rfl, by decide, by decide, by decide +kernel⟩
theorem im_X2_init : Cond.instanceMethod yX2_init ∈ mz_tbl := mz_tb 363 (by decide +kernel) rfl
theorem fp_RX11_112 : mz_FP RX11 112 8 8 .int false := ⟨_, _, _, tyX9, rfl, by decide, mz_tb 277 (by decide +kernel) rfl, cl_8, tyX9_ok, nmX9, rfl, rfl, fun q => by cases q⟩
theorem fl_RX11_124 : mz_FL RX11 124 8 1 := ⟨_, _, _, rfl, by decide, mz_tb 259 (by decide +kernel) rfl, cl_8⟩
theorem mb_RX11_127 : mz_MB RX11 127 yX10_wayLengthOf cX10_wayLengthOf 5 (some .int) 1 := ⟨mz_tb 394 (by decide +kernel) rfl, mz_tb 41 (by decide +kernel) rfl, mz_tb 320 (by decide +kernel) rfl, by decide, by decide, by decide +kernel⟩
theorem fl_RX11_130 : mz_FL RX11 130 8 10 := ⟨_, _, _, rfl, by decide, mz_tb 281 (by decide +kernel) rfl, cl_8⟩
theorem mb_RX11_134 : mz_MB RX11 134 yX9_cost cX9_cost 1 (some .int) 0 := ⟨mz_tb 395 (by decide +kernel) rfl, mz_tb 46 (by decide +kernel) rfl, mz_tb 398 (by decide +kernel) rfl, by decide, by decide, by decide +kernel⟩
theorem im_X9_cost : Cond.instanceMethod yX9_cost ∈ mz_tbl ∧ Cond.selects RX9 yX9_cost yX9_cost ∈ mz_tbl := ⟨mz_tb 396 (by decide +kernel) rfl, mz_tb 397 (by decide +kernel) rfl⟩
theorem fl_RX11_138 : mz_FL RX11 138 9 2 := ⟨_, _, _, rfl, by decide, mz_tb 79 (by decide +kernel) rfl, cl_9⟩
theorem fl_RX11_19 : mz_FL RX11 19 10 1 := ⟨_, _, _, rfl, by decide, mz_tb 205 (by decide +kernel) rfl, cl_10⟩
theorem mb_RX11_141 : mz_MB RX11 141 yX7_read cX7_read 5 none 2 := ⟨mz_tb 411 (by decide +kernel) rfl, mz_tb 42 (by decide +kernel) rfl, mz_tb 414 (by decide +kernel) rfl, by decide, by decide, by decide +kernel⟩
theorem im_X7_read : Cond.instanceMethod yX7_read ∈ mz_tbl ∧ Cond.selects RX7 yX7_read yX7_read ∈ mz_tbl := ⟨mz_tb 412 (by decide +kernel) rfl, mz_tb 413 (by decide +kernel) rfl⟩
theorem fl_RX11_145 : mz_FL RX11 145 6 3 := ⟨_, _, _, rfl, by decide, mz_tb 155 (by decide +kernel) rfl, cl_6⟩
theorem fl_RX11_148 : mz_FL RX11 148 6 2 := ⟨_, _, _, rfl, by decide, mz_tb 153 (by decide +kernel) rfl, cl_6⟩
theorem fl_RX11_149 : mz_FL RX11 149 6 4 := ⟨_, _, _, rfl, by decide, mz_tb 157 (by decide +kernel) rfl, cl_6⟩
theorem fl_RX11_152 : mz_FL RX11 152 6 5 := ⟨_, _, _, rfl, by decide, mz_tb 159 (by decide +kernel) rfl, cl_6⟩
theorem fl_RX11_155 : mz_FL RX11 155 6 6 := ⟨_, _, _, rfl, by decide, mz_tb 161 (by decide +kernel) rfl, cl_6⟩
theorem mb_RX11_158 : mz_MB RX11 158 yX7_entryAt cX7_entryAt 2 (some (.object "MemberScanner$Entry")) 1 := ⟨mz_tb 466 (by decide +kernel) rfl, mz_tb 42 (by decide +kernel) rfl, mz_tb 469 (by decide +kernel) rfl, by decide, by decide, by decide +kernel⟩
theorem fl_RX11_162 : mz_FL RX11 162 1 0 := ⟨_, _, _, rfl, by decide, mz_tb 111 (by decide +kernel) rfl, cl_1⟩
theorem fl_RX11_167 : mz_FL RX11 167 1 1 := ⟨_, _, _, rfl, by decide, mz_tb 114 (by decide +kernel) rfl, cl_1⟩
theorem fl_RX11_170 : mz_FL RX11 170 1 2 := ⟨_, _, _, rfl, by decide, mz_tb 116 (by decide +kernel) rfl, cl_1⟩
theorem fl_RX11_173 : mz_FL RX11 173 1 3 := ⟨_, _, _, rfl, by decide, mz_tb 119 (by decide +kernel) rfl, cl_1⟩
theorem fl_RX11_176 : mz_FL RX11 176 1 4 := ⟨_, _, _, rfl, by decide, mz_tb 122 (by decide +kernel) rfl, cl_1⟩
theorem fl_RX11_179 : mz_FL RX11 179 1 5 := ⟨_, _, _, rfl, by decide, mz_tb 126 (by decide +kernel) rfl, cl_1⟩
theorem fl_RX11_182 : mz_FL RX11 182 1 6 := ⟨_, _, _, rfl, by decide, mz_tb 129 (by decide +kernel) rfl, cl_1⟩
theorem fp_RX11_185 : mz_FP RX11 185 10 8 .int false := ⟨_, _, _, tyX11, rfl, by decide, mz_tb 212 (by decide +kernel) rfl, cl_10, tyX11_ok, nmX11, rfl, rfl, fun q => by cases q⟩
theorem fl_RX11_373 : mz_FL RX11 373 10 9 := ⟨_, _, _, rfl, by decide, mz_tb 213 (by decide +kernel) rfl, cl_10⟩
theorem fp_RX11_373 : mz_FP RX11 373 10 9 .int false := ⟨_, _, _, tyX11, rfl, by decide, mz_tb 213 (by decide +kernel) rfl, cl_10, tyX11_ok, nmX11, rfl, rfl, fun q => by cases q⟩
theorem fl_RX11_188 : mz_FL RX11 188 8 9 := ⟨_, _, _, rfl, by decide, mz_tb 279 (by decide +kernel) rfl, cl_8⟩
theorem mb_RX11_195 : mz_MB RX11 195 yX11_comeTo cX11_comeTo 2 (some .int) 1 := ⟨mz_tb 478 (by decide +kernel) rfl, mz_tb 40 (by decide +kernel) rfl, mz_tb 481 (by decide +kernel) rfl, by decide, by decide, by decide +kernel⟩
theorem im_X11_comeTo : Cond.instanceMethod yX11_comeTo ∈ mz_tbl ∧ Cond.selects RX11 yX11_comeTo yX11_comeTo ∈ mz_tbl := ⟨mz_tb 480 (by decide +kernel) rfl, mz_tb 9 (by decide +kernel) rfl⟩
theorem mb_RX11_191 : mz_MB RX11 191 yX9_isPlainOrRecord cX9_isPlainOrRecord 1 (some .boolean) 0 := ⟨mz_tb 474 (by decide +kernel) rfl, mz_tb 46 (by decide +kernel) rfl, mz_tb 477 (by decide +kernel) rfl, by decide, by decide, by decide +kernel⟩
theorem fl_RX11_198 : mz_FL RX11 198 10 4 := ⟨_, _, _, rfl, by decide, mz_tb 208 (by decide +kernel) rfl, cl_10⟩
theorem fl_RX11_28 : mz_FL RX11 28 10 3 := ⟨_, _, _, rfl, by decide, mz_tb 207 (by decide +kernel) rfl, cl_10⟩
theorem fp_RX11_198 : mz_FP RX11 198 10 4 .int false := ⟨_, _, _, tyX11, rfl, by decide, mz_tb 208 (by decide +kernel) rfl, cl_10, tyX11_ok, nmX11, rfl, rfl, fun q => by cases q⟩
theorem fl_RX11_23 : mz_FL RX11 23 10 2 := ⟨_, _, _, rfl, by decide, mz_tb 206 (by decide +kernel) rfl, cl_10⟩
theorem mb_RX11_201 : mz_MB RX11 201 yX10_start cX10_start 4 none 1 := ⟨mz_tb 494 (by decide +kernel) rfl, mz_tb 41 (by decide +kernel) rfl, mz_tb 497 (by decide +kernel) rfl, by decide, by decide, by decide +kernel⟩
theorem im_X10_start : Cond.instanceMethod yX10_start ∈ mz_tbl ∧ Cond.selects RX10 yX10_start yX10_start ∈ mz_tbl := ⟨mz_tb 495 (by decide +kernel) rfl, mz_tb 496 (by decide +kernel) rfl⟩
theorem nw_7 : ∀ j, j < 2 → defaultValue (tyX8 j) = vp_V [.int 0, .null] j := by decide
theorem mb_RX11_205 : mz_MB RX11 205 yX8_init cX8_init 4 none 2 := ⟨mz_tb 499 (by decide +kernel) rfl, mz_tb 48 (by decide +kernel) rfl, mz_tb 501 (by decide +kernel) rfl, by decide, by decide, by decide +kernel⟩
theorem im_X8_init : Cond.instanceMethod yX8_init ∈ mz_tbl := mz_tb 500 (by decide +kernel) rfl
theorem mb_RX11_208 : mz_MB RX11 208 yX11_addThing cX11_addThing 2 (some .int) 1 := ⟨mz_tb 569 (by decide +kernel) rfl, mz_tb 40 (by decide +kernel) rfl, mz_tb 572 (by decide +kernel) rfl, by decide, by decide, by decide +kernel⟩
theorem im_X11_addThing : Cond.instanceMethod yX11_addThing ∈ mz_tbl ∧ Cond.selects RX11 yX11_addThing yX11_addThing ∈ mz_tbl := ⟨mz_tb 571 (by decide +kernel) rfl, mz_tb 10 (by decide +kernel) rfl⟩
theorem mb_RX11_212 : mz_MB RX11 212 yX11_thingOf cX11_thingOf 2 (some (.object "MemberScanner$Thing")) 1 := ⟨mz_tb 577 (by decide +kernel) rfl, mz_tb 40 (by decide +kernel) rfl, mz_tb 580 (by decide +kernel) rfl, by decide, by decide, by decide +kernel⟩
theorem im_X11_thingOf : Cond.instanceMethod yX11_thingOf ∈ mz_tbl ∧ Cond.selects RX11 yX11_thingOf yX11_thingOf ∈ mz_tbl := ⟨mz_tb 579 (by decide +kernel) rfl, mz_tb 11 (by decide +kernel) rfl⟩
theorem fl_RX11_216 : mz_FL RX11 216 7 0 := ⟨_, _, _, rfl, by decide, mz_tb 561 (by decide +kernel) rfl, cl_7⟩
theorem fl_RX11_219 : mz_FL RX11 219 7 1 := ⟨_, _, _, rfl, by decide, mz_tb 563 (by decide +kernel) rfl, cl_7⟩
theorem mb_RX11_223 : mz_MB RX11 223 yX8_slotNumber cX8_slotNumber 3 (some .int) 1 := ⟨mz_tb 585 (by decide +kernel) rfl, mz_tb 48 (by decide +kernel) rfl, mz_tb 588 (by decide +kernel) rfl, by decide, by decide, by decide +kernel⟩
theorem mb_RX11_376 : mz_MB RX11 376 yX8_slotAt cX8_slotAt 2 (some (.object "MemberScanner$Slot")) 1 := ⟨mz_tb 597 (by decide +kernel) rfl, mz_tb 48 (by decide +kernel) rfl, mz_tb 600 (by decide +kernel) rfl, by decide, by decide, by decide +kernel⟩
theorem mb_RX11_226 : mz_MB RX11 226 yX11_slotOf cX11_slotOf 4 (some (.object "MemberScanner$Slot")) 2 := ⟨mz_tb 593 (by decide +kernel) rfl, mz_tb 40 (by decide +kernel) rfl, mz_tb 596 (by decide +kernel) rfl, by decide, by decide, by decide +kernel⟩
theorem im_X11_slotOf : Cond.instanceMethod yX11_slotOf ∈ mz_tbl ∧ Cond.selects RX11 yX11_slotOf yX11_slotOf ∈ mz_tbl := ⟨mz_tb 595 (by decide +kernel) rfl, mz_tb 12 (by decide +kernel) rfl⟩
theorem fl_RX11_230 : mz_FL RX11 230 5 0 := ⟨_, _, _, rfl, by decide, mz_tb 532 (by decide +kernel) rfl, cl_5⟩
theorem fl_RX11_233 : mz_FL RX11 233 5 1 := ⟨_, _, _, rfl, by decide, mz_tb 536 (by decide +kernel) rfl, cl_5⟩
theorem fl_RX11_234 : mz_FL RX11 234 5 2 := ⟨_, _, _, rfl, by decide, mz_tb 539 (by decide +kernel) rfl, cl_5⟩
theorem fl_RX11_235 : mz_FL RX11 235 5 3 := ⟨_, _, _, rfl, by decide, mz_tb 542 (by decide +kernel) rfl, cl_5⟩
theorem mb_RX11_236 : mz_MB RX11 236 yX6_fillAnew cX6_fillAnew 2 none 1 := ⟨mz_tb 605 (by decide +kernel) rfl, mz_tb 49 (by decide +kernel) rfl, mz_tb 608 (by decide +kernel) rfl, by decide, by decide, by decide +kernel⟩
theorem im_X6_fillAnew : Cond.instanceMethod yX6_fillAnew ∈ mz_tbl ∧ Cond.selects RX6 yX6_fillAnew yX6_fillAnew ∈ mz_tbl := ⟨mz_tb 606 (by decide +kernel) rfl, mz_tb 607 (by decide +kernel) rfl⟩
theorem fl_RX11_239 : mz_FL RX11 239 5 5 := ⟨_, _, _, rfl, by decide, mz_tb 546 (by decide +kernel) rfl, cl_5⟩
theorem mb_RX11_245 : mz_MB RX11 245 yX5_init cX5_init 3 none 2 := ⟨mz_tb 616 (by decide +kernel) rfl, mz_tb 50 (by decide +kernel) rfl, mz_tb 515 (by decide +kernel) rfl, by decide, by decide, by decide +kernel⟩
theorem mb_RX11_251 : mz_MB RX11 251 yX6_empty cX6_empty 1 none 0 := ⟨mz_tb 625 (by decide +kernel) rfl, mz_tb 49 (by decide +kernel) rfl, mz_tb 628 (by decide +kernel) rfl, by decide, by decide, by decide +kernel⟩
theorem im_X6_empty : Cond.instanceMethod yX6_empty ∈ mz_tbl ∧ Cond.selects RX6 yX6_empty yX6_empty ∈ mz_tbl := ⟨mz_tb 626 (by decide +kernel) rfl, mz_tb 627 (by decide +kernel) rfl⟩
theorem mb_RX11_248 : mz_MB RX11 248 yX6_hasNothing cX6_hasNothing 1 (some .boolean) 0 := ⟨mz_tb 621 (by decide +kernel) rfl, mz_tb 49 (by decide +kernel) rfl, mz_tb 624 (by decide +kernel) rfl, by decide, by decide, by decide +kernel⟩
theorem mb_RX11_254 : mz_MB RX11 254 yX6_length cX6_length 1 (some .int) 0 := ⟨mz_tb 633 (by decide +kernel) rfl, mz_tb 49 (by decide +kernel) rfl, mz_tb 636 (by decide +kernel) rfl, by decide, by decide, by decide +kernel⟩
theorem mb_RX11_257 : mz_MB RX11 257 yX6_rowAt cX6_rowAt 2 (some (.object "MemberScanner$Row")) 1 := ⟨mz_tb 637 (by decide +kernel) rfl, mz_tb 49 (by decide +kernel) rfl, mz_tb 640 (by decide +kernel) rfl, by decide, by decide, by decide +kernel⟩
theorem fl_RX11_261 : mz_FL RX11 261 4 0 := ⟨_, _, _, rfl, by decide, mz_tb 526 (by decide +kernel) rfl, cl_4⟩
theorem mb_RX11_265 : mz_MB RX11 265 yX6_faultAt cX6_faultAt 4 (some .int) 2 := ⟨mz_tb 645 (by decide +kernel) rfl, mz_tb 49 (by decide +kernel) rfl, mz_tb 648 (by decide +kernel) rfl, by decide, by decide, by decide +kernel⟩
theorem im_X6_faultAt : Cond.instanceMethod yX6_faultAt ∈ mz_tbl ∧ Cond.selects RX6 yX6_faultAt yX6_faultAt ∈ mz_tbl := ⟨mz_tb 646 (by decide +kernel) rfl, mz_tb 647 (by decide +kernel) rfl⟩
theorem mb_RX11_273 : mz_MB RX11 273 yX11_zeroAfter cX11_zeroAfter 2 (some .long) 1 := ⟨mz_tb 660 (by decide +kernel) rfl, mz_tb 40 (by decide +kernel) rfl, mz_tb 663 (by decide +kernel) rfl, by decide, by decide, by decide +kernel⟩
theorem im_X11_zeroAfter : Cond.instanceMethod yX11_zeroAfter ∈ mz_tbl ∧ Cond.selects RX11 yX11_zeroAfter yX11_zeroAfter ∈ mz_tbl := ⟨mz_tb 662 (by decide +kernel) rfl, mz_tb 13 (by decide +kernel) rfl⟩
theorem mb_RX11_269 : mz_MB RX11 269 yX6_cellAt cX6_cellAt 5 (some .long) 2 := ⟨mz_tb 656 (by decide +kernel) rfl, mz_tb 49 (by decide +kernel) rfl, mz_tb 659 (by decide +kernel) rfl, by decide, by decide, by decide +kernel⟩
theorem mb_RX11_380 : mz_MB RX11 380 yX6_putCell cX6_putCell 7 none 3 := ⟨mz_tb 709 (by decide +kernel) rfl, mz_tb 49 (by decide +kernel) rfl, mz_tb 712 (by decide +kernel) rfl, by decide, by decide, by decide +kernel⟩
theorem im_X6_putCell : Cond.instanceMethod yX6_putCell ∈ mz_tbl ∧ Cond.selects RX6 yX6_putCell yX6_putCell ∈ mz_tbl := ⟨mz_tb 710 (by decide +kernel) rfl, mz_tb 711 (by decide +kernel) rfl⟩
theorem mb_RX11_277 : mz_MB RX11 277 yX3_become cX3_become 3 (some .long) 2 := ⟨mz_tb 668 (by decide +kernel) rfl, mz_tb 53 (by decide +kernel) rfl, mz_tb 670 (by decide +kernel) rfl, by decide, by decide, by decide +kernel⟩
theorem im_X3_become : Cond.static yX3_become ∈ mz_tbl := mz_tb 669 (by decide +kernel) rfl
theorem mb_RX11_283 : mz_MB RX11 283 yX11_put cX11_put 7 (some .int) 4 := ⟨mz_tb 705 (by decide +kernel) rfl, mz_tb 40 (by decide +kernel) rfl, mz_tb 708 (by decide +kernel) rfl, by decide, by decide, by decide +kernel⟩
theorem im_X11_put : Cond.instanceMethod yX11_put ∈ mz_tbl ∧ Cond.selects RX11 yX11_put yX11_put ∈ mz_tbl := ⟨mz_tb 707 (by decide +kernel) rfl, mz_tb 14 (by decide +kernel) rfl⟩
theorem mb_RX11_287 : mz_MB RX11 287 yX11_faultOfRow cX11_faultOfRow 2 (some .int) 2 := ⟨mz_tb 721 (by decide +kernel) rfl, mz_tb 40 (by decide +kernel) rfl, mz_tb 723 (by decide +kernel) rfl, by decide, by decide, by decide +kernel⟩
theorem im_X11_faultOfRow : Cond.static yX11_faultOfRow ∈ mz_tbl := mz_tb 722 (by decide +kernel) rfl
theorem mb_RX11_291 : mz_MB RX11 291 yX3_widens cX3_widens 2 (some .boolean) 2 := ⟨mz_tb 728 (by decide +kernel) rfl, mz_tb 53 (by decide +kernel) rfl, mz_tb 730 (by decide +kernel) rfl, by decide, by decide, by decide +kernel⟩
theorem mb_RX11_294 : mz_MB RX11 294 yX3_widened cX3_widened 5 (some .long) 3 := ⟨mz_tb 733 (by decide +kernel) rfl, mz_tb 53 (by decide +kernel) rfl, mz_tb 735 (by decide +kernel) rfl, by decide, by decide, by decide +kernel⟩
theorem fl_RX11_298 : mz_FL RX11 298 5 4 := ⟨_, _, _, rfl, by decide, mz_tb 544 (by decide +kernel) rfl, cl_5⟩
theorem mb_RX11_302 : mz_MB RX11 302 yX5_hasRange cX5_hasRange 3 (some .boolean) 2 := ⟨mz_tb 743 (by decide +kernel) rfl, mz_tb 50 (by decide +kernel) rfl, mz_tb 746 (by decide +kernel) rfl, by decide, by decide, by decide +kernel⟩
theorem im_X5_hasRange : Cond.instanceMethod yX5_hasRange ∈ mz_tbl ∧ Cond.selects RX5 yX5_hasRange yX5_hasRange ∈ mz_tbl := ⟨mz_tb 744 (by decide +kernel) rfl, mz_tb 745 (by decide +kernel) rfl⟩
theorem ac_RX11_305 : Cond.methodLink RX11 305 arraycopyName ∈ mz_tbl ∧ Cond.native arraycopyName ∈ mz_tbl ∧ Cond.static arraycopyName ∈ mz_tbl ∧ Cond.initialized "java/lang/System" ∈ mz_tbl := ⟨mz_tb 747 (by decide +kernel) rfl, mz_tb 749 (by decide +kernel) rfl, mz_tb 748 (by decide +kernel) rfl, mz_tb 56 (by decide +kernel) rfl⟩
theorem mb_RX11_384 : mz_MB RX11 384 yX8_slotNamed cX8_slotNamed 2 (some (.object "MemberScanner$Slot")) 1 := ⟨mz_tb 757 (by decide +kernel) rfl, mz_tb 48 (by decide +kernel) rfl, mz_tb 760 (by decide +kernel) rfl, by decide, by decide, by decide +kernel⟩
theorem im_X8_slotNamed : Cond.instanceMethod yX8_slotNamed ∈ mz_tbl ∧ Cond.selects RX8 yX8_slotNamed yX8_slotNamed ∈ mz_tbl := ⟨mz_tb 758 (by decide +kernel) rfl, mz_tb 759 (by decide +kernel) rfl⟩
theorem mb_RX11_311 : mz_MB RX11 311 yX11_faultOfStep cX11_faultOfStep 4 (some .int) 2 := ⟨mz_tb 754 (by decide +kernel) rfl, mz_tb 40 (by decide +kernel) rfl, mz_tb 756 (by decide +kernel) rfl, by decide, by decide, by decide +kernel⟩
theorem im_X11_faultOfStep : Cond.static yX11_faultOfStep ∈ mz_tbl := mz_tb 755 (by decide +kernel) rfl
theorem mb_RX11_315 : mz_MB RX11 315 yX11_nextFrom cX11_nextFrom 3 (some .int) 2 := ⟨mz_tb 764 (by decide +kernel) rfl, mz_tb 40 (by decide +kernel) rfl, mz_tb 766 (by decide +kernel) rfl, by decide, by decide, by decide +kernel⟩
theorem im_X11_nextFrom : Cond.static yX11_nextFrom ∈ mz_tbl := mz_tb 765 (by decide +kernel) rfl
theorem mb_RX11_318 : mz_MB RX11 318 yX8_init_ cX8_init_ 3 none 1 := ⟨mz_tb 771 (by decide +kernel) rfl, mz_tb 48 (by decide +kernel) rfl, mz_tb 773 (by decide +kernel) rfl, by decide, by decide, by decide +kernel⟩
theorem im_X8_init_ : Cond.instanceMethod yX8_init_ ∈ mz_tbl := mz_tb 772 (by decide +kernel) rfl
theorem mb_RX11_321 : mz_MB RX11 321 yX8_isLike cX8_isLike 3 (some .boolean) 1 := ⟨mz_tb 791 (by decide +kernel) rfl, mz_tb 48 (by decide +kernel) rfl, mz_tb 794 (by decide +kernel) rfl, by decide, by decide, by decide +kernel⟩
theorem im_X8_isLike : Cond.instanceMethod yX8_isLike ∈ mz_tbl ∧ Cond.selects RX8 yX8_isLike yX8_isLike ∈ mz_tbl := ⟨mz_tb 792 (by decide +kernel) rfl, mz_tb 793 (by decide +kernel) rfl⟩
theorem mb_RX11_325 : mz_MB RX11 325 yX8_hasKey cX8_hasKey 6 (some .boolean) 1 := ⟨mz_tb 810 (by decide +kernel) rfl, mz_tb 48 (by decide +kernel) rfl, mz_tb 813 (by decide +kernel) rfl, by decide, by decide, by decide +kernel⟩
theorem im_X8_hasKey : Cond.instanceMethod yX8_hasKey ∈ mz_tbl ∧ Cond.selects RX8 yX8_hasKey yX8_hasKey ∈ mz_tbl := ⟨mz_tb 811 (by decide +kernel) rfl, mz_tb 812 (by decide +kernel) rfl⟩
theorem fl_RX11_35 : mz_FL RX11 35 10 5 := ⟨_, _, _, rfl, by decide, mz_tb 209 (by decide +kernel) rfl, cl_10⟩
theorem fl_RX11_39 : mz_FL RX11 39 10 6 := ⟨_, _, _, rfl, by decide, mz_tb 210 (by decide +kernel) rfl, cl_10⟩
theorem fl_RX11_340 : mz_FL RX11 340 0 1 := ⟨_, _, _, rfl, by decide, mz_tb 188 (by decide +kernel) rfl, cl_0⟩
theorem mb_RX11_332 : mz_MB RX11 332 yX11_columnSlot cX11_columnSlot 5 (some (.object "MemberScanner$Slot")) 3 := ⟨mz_tb 823 (by decide +kernel) rfl, mz_tb 40 (by decide +kernel) rfl, mz_tb 826 (by decide +kernel) rfl, by decide, by decide, by decide +kernel⟩
theorem im_X11_columnSlot : Cond.instanceMethod yX11_columnSlot ∈ mz_tbl ∧ Cond.selects RX11 yX11_columnSlot yX11_columnSlot ∈ mz_tbl := ⟨mz_tb 825 (by decide +kernel) rfl, mz_tb 15 (by decide +kernel) rfl⟩
theorem mb_RX11_336 : mz_MB RX11 336 yX0_take cX0_take 2 (some .boolean) 1 := ⟨mz_tb 827 (by decide +kernel) rfl, mz_tb 44 (by decide +kernel) rfl, mz_tb 830 (by decide +kernel) rfl, by decide, by decide, by decide +kernel⟩
theorem im_X0_take : Cond.instanceMethod yX0_take ∈ mz_tbl ∧ Cond.selects RX0 yX0_take yX0_take ∈ mz_tbl := ⟨mz_tb 828 (by decide +kernel) rfl, mz_tb 829 (by decide +kernel) rfl⟩
theorem mb_RX11_329 : mz_MB RX11 329 yX0_begin cX0_begin 2 none 1 := ⟨mz_tb 819 (by decide +kernel) rfl, mz_tb 44 (by decide +kernel) rfl, mz_tb 822 (by decide +kernel) rfl, by decide, by decide, by decide +kernel⟩
theorem im_X0_begin : Cond.instanceMethod yX0_begin ∈ mz_tbl ∧ Cond.selects RX0 yX0_begin yX0_begin ∈ mz_tbl := ⟨mz_tb 820 (by decide +kernel) rfl, mz_tb 821 (by decide +kernel) rfl⟩
theorem fl_RX11_341 : mz_FL RX11 341 0 3 := ⟨_, _, _, rfl, by decide, mz_tb 191 (by decide +kernel) rfl, cl_0⟩
theorem fl_RX11_344 : mz_FL RX11 344 0 0 := ⟨_, _, _, rfl, by decide, mz_tb 186 (by decide +kernel) rfl, cl_0⟩
theorem mb_RX11_345 : mz_MB RX11 345 yX0_folded cX0_folded 9 (some .long) 1 := ⟨mz_tb 842 (by decide +kernel) rfl, mz_tb 44 (by decide +kernel) rfl, mz_tb 845 (by decide +kernel) rfl, by decide, by decide, by decide +kernel⟩
theorem im_X0_folded : Cond.instanceMethod yX0_folded ∈ mz_tbl ∧ Cond.selects RX0 yX0_folded yX0_folded ∈ mz_tbl := ⟨mz_tb 843 (by decide +kernel) rfl, mz_tb 844 (by decide +kernel) rfl⟩
theorem mb_RX11_353 : mz_MB RX11 353 yX5_curveAt cX5_curveAt 15 (some .long) 1 := ⟨mz_tb 873 (by decide +kernel) rfl, mz_tb 50 (by decide +kernel) rfl, mz_tb 876 (by decide +kernel) rfl, by decide, by decide, by decide +kernel⟩
theorem im_X5_curveAt : Cond.instanceMethod yX5_curveAt ∈ mz_tbl ∧ Cond.selects RX5 yX5_curveAt yX5_curveAt ∈ mz_tbl := ⟨mz_tb 874 (by decide +kernel) rfl, mz_tb 875 (by decide +kernel) rfl⟩
theorem mb_RX11_348 : mz_MB RX11 348 yX3_isFinite cX3_isFinite 2 (some .boolean) 1 := ⟨mz_tb 871 (by decide +kernel) rfl, mz_tb 53 (by decide +kernel) rfl, mz_tb 682 (by decide +kernel) rfl, by decide, by decide, by decide +kernel⟩
theorem mb_RX11_357 : mz_MB RX11 357 yX11_isList cX11_isList 1 (some .boolean) 1 := ⟨mz_tb 904 (by decide +kernel) rfl, mz_tb 40 (by decide +kernel) rfl, mz_tb 906 (by decide +kernel) rfl, by decide, by decide, by decide +kernel⟩
theorem im_X11_isList : Cond.static yX11_isList ∈ mz_tbl := mz_tb 905 (by decide +kernel) rfl
theorem fl_RX11_44 : mz_FL RX11 44 10 7 := ⟨_, _, _, rfl, by decide, mz_tb 211 (by decide +kernel) rfl, cl_10⟩
theorem nw_3 : ∀ j, j < 2 → defaultValue (tyX4 j) = vp_V [.int 0, .null] j := by decide
theorem mb_RX11_360 : mz_MB RX11 360 yX4_init cX4_init 3 none 2 := ⟨mz_tb 908 (by decide +kernel) rfl, mz_tb 57 (by decide +kernel) rfl, mz_tb 910 (by decide +kernel) rfl, by decide, by decide, by decide +kernel⟩
theorem im_X4_init : Cond.instanceMethod yX4_init ∈ mz_tbl := mz_tb 909 (by decide +kernel) rfl
theorem fl_RX11_368 : mz_FL RX11 368 3 1 := ⟨_, _, _, rfl, by decide, mz_tb 918 (by decide +kernel) rfl, cl_3⟩
theorem mb_RX11_361 : mz_MB RX11 361 yX4_has cX4_has 2 (some .boolean) 1 := ⟨mz_tb 928 (by decide +kernel) rfl, mz_tb 57 (by decide +kernel) rfl, mz_tb 931 (by decide +kernel) rfl, by decide, by decide, by decide +kernel⟩
theorem im_X4_has : Cond.instanceMethod yX4_has ∈ mz_tbl ∧ Cond.selects RX4 yX4_has yX4_has ∈ mz_tbl := ⟨mz_tb 929 (by decide +kernel) rfl, mz_tb 930 (by decide +kernel) rfl⟩
theorem mb_RX11_364 : mz_MB RX11 364 yX4_takesType cX4_takesType 2 (some .boolean) 1 := ⟨mz_tb 932 (by decide +kernel) rfl, mz_tb 57 (by decide +kernel) rfl, mz_tb 935 (by decide +kernel) rfl, by decide, by decide, by decide +kernel⟩
theorem im_X4_takesType : Cond.instanceMethod yX4_takesType ∈ mz_tbl ∧ Cond.selects RX4 yX4_takesType yX4_takesType ∈ mz_tbl := ⟨mz_tb 933 (by decide +kernel) rfl, mz_tb 934 (by decide +kernel) rfl⟩
theorem fl_RX11_185 : mz_FL RX11 185 10 8 := ⟨_, _, _, rfl, by decide, mz_tb 212 (by decide +kernel) rfl, cl_10⟩
theorem mb_RX11_370 : mz_MB RX11 370 yX10_startedCount cX10_startedCount 3 (some .int) 0 := ⟨mz_tb 953 (by decide +kernel) rfl, mz_tb 41 (by decide +kernel) rfl, mz_tb 956 (by decide +kernel) rfl, by decide, by decide, by decide +kernel⟩
theorem im_X10_startedCount : Cond.instanceMethod yX10_startedCount ∈ mz_tbl ∧ Cond.selects RX10 yX10_startedCount yX10_startedCount ∈ mz_tbl := ⟨mz_tb 954 (by decide +kernel) rfl, mz_tb 955 (by decide +kernel) rfl⟩
theorem oi_RX12_1 : Cond.methodLink RX12 1 objectInit ∈ mz_tbl ∧ Cond.instanceMethod objectInit ∈ mz_tbl ∧ Cond.code objectInit ⟨#[0xb1]⟩ 1 none ∈ mz_tbl := ⟨mz_tb 962 (by decide +kernel) rfl, mz_tb 64 (by decide +kernel) rfl, mz_tb 65 (by decide +kernel) rfl⟩
set_option maxRecDepth 20000 in
theorem cl_11 : ∀ w ∈ u_ws RX12 TX12 52, w ∈ mz_tbl := fun w hw => List.mem_filter.mpr ⟨(by decide +kernel : ∀ w ∈ u_ws RX12 TX12 52, w ∈ lw_tbl) w hw, (by decide +kernel : ∀ w ∈ u_ws RX12 TX12 52, goodWord w = true) w hw⟩
theorem fp_RX12_7 : mz_FP RX12 7 11 3 (.array .int) true := ⟨_, _, _, tyX12, rfl, by decide, mz_tb 967 (by decide +kernel) rfl, cl_11, tyX12_ok, nmX12, rfl, rfl, fun _ => rfl⟩
theorem fp_RX12_13 : mz_FP RX12 13 11 4 (.array .int) true := ⟨_, _, _, tyX12, rfl, by decide, mz_tb 968 (by decide +kernel) rfl, cl_11, tyX12_ok, nmX12, rfl, rfl, fun _ => rfl⟩
theorem fp_RX12_16 : mz_FP RX12 16 11 5 (.array .int) true := ⟨_, _, _, tyX12, rfl, by decide, mz_tb 969 (by decide +kernel) rfl, cl_11, tyX12_ok, nmX12, rfl, rfl, fun _ => rfl⟩
theorem fp_RX12_19 : mz_FP RX12 19 11 6 (.array .int) true := ⟨_, _, _, tyX12, rfl, by decide, mz_tb 970 (by decide +kernel) rfl, cl_11, tyX12_ok, nmX12, rfl, rfl, fun _ => rfl⟩
theorem fp_RX12_22 : mz_FP RX12 22 11 7 (.array .int) true := ⟨_, _, _, tyX12, rfl, by decide, mz_tb 971 (by decide +kernel) rfl, cl_11, tyX12_ok, nmX12, rfl, rfl, fun _ => rfl⟩
theorem fp_RX12_25 : mz_FP RX12 25 11 8 (.array .int) true := ⟨_, _, _, tyX12, rfl, by decide, mz_tb 972 (by decide +kernel) rfl, cl_11, tyX12_ok, nmX12, rfl, rfl, fun _ => rfl⟩
theorem fp_RX12_28 : mz_FP RX12 28 11 9 (.array .int) true := ⟨_, _, _, tyX12, rfl, by decide, mz_tb 973 (by decide +kernel) rfl, cl_11, tyX12_ok, nmX12, rfl, rfl, fun _ => rfl⟩
theorem fp_RX12_31 : mz_FP RX12 31 11 10 (.array .boolean) true := ⟨_, _, _, tyX12, rfl, by decide, mz_tb 974 (by decide +kernel) rfl, cl_11, tyX12_ok, nmX12, rfl, rfl, fun _ => rfl⟩
theorem fp_RX12_35 : mz_FP RX12 35 11 11 (.array .int) true := ⟨_, _, _, tyX12, rfl, by decide, mz_tb 975 (by decide +kernel) rfl, cl_11, tyX12_ok, nmX12, rfl, rfl, fun _ => rfl⟩
theorem fp_RX12_38 : mz_FP RX12 38 11 12 (.array .int) true := ⟨_, _, _, tyX12, rfl, by decide, mz_tb 976 (by decide +kernel) rfl, cl_11, tyX12_ok, nmX12, rfl, rfl, fun _ => rfl⟩
theorem fp_RX12_41 : mz_FP RX12 41 11 13 (.array .int) true := ⟨_, _, _, tyX12, rfl, by decide, mz_tb 977 (by decide +kernel) rfl, cl_11, tyX12_ok, nmX12, rfl, rfl, fun _ => rfl⟩
theorem fp_RX12_44 : mz_FP RX12 44 11 14 (.array .boolean) true := ⟨_, _, _, tyX12, rfl, by decide, mz_tb 978 (by decide +kernel) rfl, cl_11, tyX12_ok, nmX12, rfl, rfl, fun _ => rfl⟩
theorem fp_RX12_47 : mz_FP RX12 47 11 15 (.array .int) true := ⟨_, _, _, tyX12, rfl, by decide, mz_tb 979 (by decide +kernel) rfl, cl_11, tyX12_ok, nmX12, rfl, rfl, fun _ => rfl⟩
theorem fp_RX12_50 : mz_FP RX12 50 11 16 (.array .int) true := ⟨_, _, _, tyX12, rfl, by decide, mz_tb 980 (by decide +kernel) rfl, cl_11, tyX12_ok, nmX12, rfl, rfl, fun _ => rfl⟩
theorem fp_RX12_53 : mz_FP RX12 53 11 18 (.array .int) true := ⟨_, _, _, tyX12, rfl, by decide, mz_tb 982 (by decide +kernel) rfl, cl_11, tyX12_ok, nmX12, rfl, rfl, fun _ => rfl⟩
theorem fp_RX12_56 : mz_FP RX12 56 11 19 (.array .int) true := ⟨_, _, _, tyX12, rfl, by decide, mz_tb 983 (by decide +kernel) rfl, cl_11, tyX12_ok, nmX12, rfl, rfl, fun _ => rfl⟩
theorem fp_RX12_59 : mz_FP RX12 59 11 25 (.array .int) true := ⟨_, _, _, tyX12, rfl, by decide, mz_tb 989 (by decide +kernel) rfl, cl_11, tyX12_ok, nmX12, rfl, rfl, fun _ => rfl⟩
theorem fp_RX12_62 : mz_FP RX12 62 11 27 .int false := ⟨_, _, _, tyX12, rfl, by decide, mz_tb 991 (by decide +kernel) rfl, cl_11, tyX12_ok, nmX12, rfl, rfl, fun q => by cases q⟩
theorem fp_RX12_66 : mz_FP RX12 66 11 28 .int false := ⟨_, _, _, tyX12, rfl, by decide, mz_tb 992 (by decide +kernel) rfl, cl_11, tyX12_ok, nmX12, rfl, rfl, fun q => by cases q⟩
theorem fp_RX12_69 : mz_FP RX12 69 11 29 .int false := ⟨_, _, _, tyX12, rfl, by decide, mz_tb 993 (by decide +kernel) rfl, cl_11, tyX12_ok, nmX12, rfl, rfl, fun q => by cases q⟩
theorem fp_RX12_72 : mz_FP RX12 72 11 31 (.array .int) true := ⟨_, _, _, tyX12, rfl, by decide, mz_tb 995 (by decide +kernel) rfl, cl_11, tyX12_ok, nmX12, rfl, rfl, fun _ => rfl⟩
theorem fp_RX12_75 : mz_FP RX12 75 11 33 (.array .int) true := ⟨_, _, _, tyX12, rfl, by decide, mz_tb 997 (by decide +kernel) rfl, cl_11, tyX12_ok, nmX12, rfl, rfl, fun _ => rfl⟩
theorem fp_RX12_78 : mz_FP RX12 78 11 34 (.array .int) true := ⟨_, _, _, tyX12, rfl, by decide, mz_tb 998 (by decide +kernel) rfl, cl_11, tyX12_ok, nmX12, rfl, rfl, fun _ => rfl⟩
theorem fp_RX12_81 : mz_FP RX12 81 11 35 (.array .int) true := ⟨_, _, _, tyX12, rfl, by decide, mz_tb 999 (by decide +kernel) rfl, cl_11, tyX12_ok, nmX12, rfl, rfl, fun _ => rfl⟩
theorem fp_RX12_84 : mz_FP RX12 84 11 36 (.array .int) true := ⟨_, _, _, tyX12, rfl, by decide, mz_tb 1000 (by decide +kernel) rfl, cl_11, tyX12_ok, nmX12, rfl, rfl, fun _ => rfl⟩
theorem fp_RX12_87 : mz_FP RX12 87 11 37 (.array .int) true := ⟨_, _, _, tyX12, rfl, by decide, mz_tb 1001 (by decide +kernel) rfl, cl_11, tyX12_ok, nmX12, rfl, rfl, fun _ => rfl⟩
theorem fp_RX12_90 : mz_FP RX12 90 11 38 (.array .int) true := ⟨_, _, _, tyX12, rfl, by decide, mz_tb 1002 (by decide +kernel) rfl, cl_11, tyX12_ok, nmX12, rfl, rfl, fun _ => rfl⟩
theorem fp_RX12_93 : mz_FP RX12 93 11 39 (.array .boolean) true := ⟨_, _, _, tyX12, rfl, by decide, mz_tb 1003 (by decide +kernel) rfl, cl_11, tyX12_ok, nmX12, rfl, rfl, fun _ => rfl⟩
theorem fp_RX12_96 : mz_FP RX12 96 11 40 (.array .int) true := ⟨_, _, _, tyX12, rfl, by decide, mz_tb 1004 (by decide +kernel) rfl, cl_11, tyX12_ok, nmX12, rfl, rfl, fun _ => rfl⟩
theorem fp_RX12_99 : mz_FP RX12 99 11 41 (.array .boolean) true := ⟨_, _, _, tyX12, rfl, by decide, mz_tb 1005 (by decide +kernel) rfl, cl_11, tyX12_ok, nmX12, rfl, rfl, fun _ => rfl⟩
theorem fp_RX12_102 : mz_FP RX12 102 11 42 (.array .int) true := ⟨_, _, _, tyX12, rfl, by decide, mz_tb 1006 (by decide +kernel) rfl, cl_11, tyX12_ok, nmX12, rfl, rfl, fun _ => rfl⟩
theorem fp_RX12_106 : mz_FP RX12 106 11 43 (.array .long) true := ⟨_, _, _, tyX12, rfl, by decide, mz_tb 1007 (by decide +kernel) rfl, cl_11, tyX12_ok, nmX12, rfl, rfl, fun _ => rfl⟩
theorem fp_RX12_110 : mz_FP RX12 110 11 47 (.array .long) true := ⟨_, _, _, tyX12, rfl, by decide, mz_tb 1011 (by decide +kernel) rfl, cl_11, tyX12_ok, nmX12, rfl, rfl, fun _ => rfl⟩
theorem fp_RX12_113 : mz_FP RX12 113 11 48 (.array .long) true := ⟨_, _, _, tyX12, rfl, by decide, mz_tb 1012 (by decide +kernel) rfl, cl_11, tyX12_ok, nmX12, rfl, rfl, fun _ => rfl⟩
theorem fp_RX12_116 : mz_FP RX12 116 11 49 (.array .int) true := ⟨_, _, _, tyX12, rfl, by decide, mz_tb 1013 (by decide +kernel) rfl, cl_11, tyX12_ok, nmX12, rfl, rfl, fun _ => rfl⟩
theorem fp_RX12_119 : mz_FP RX12 119 11 50 (.array .int) true := ⟨_, _, _, tyX12, rfl, by decide, mz_tb 1014 (by decide +kernel) rfl, cl_11, tyX12_ok, nmX12, rfl, rfl, fun _ => rfl⟩
theorem fp_RX12_122 : mz_FP RX12 122 11 51 (.array .int) true := ⟨_, _, _, tyX12, rfl, by decide, mz_tb 1015 (by decide +kernel) rfl, cl_11, tyX12_ok, nmX12, rfl, rfl, fun _ => rfl⟩
theorem fp_RX12_125 : mz_FP RX12 125 11 0 .int false := ⟨_, _, _, tyX12, rfl, by decide, mz_tb 964 (by decide +kernel) rfl, cl_11, tyX12_ok, nmX12, rfl, rfl, fun q => by cases q⟩
theorem fl_RX12_128 : mz_FL RX12 128 11 1 := ⟨_, _, _, rfl, by decide, mz_tb 965 (by decide +kernel) rfl, cl_11⟩
theorem fp_RX12_128 : mz_FP RX12 128 11 1 .int false := ⟨_, _, _, tyX12, rfl, by decide, mz_tb 965 (by decide +kernel) rfl, cl_11, tyX12_ok, nmX12, rfl, rfl, fun q => by cases q⟩
theorem mb_RX12_131 : mz_MB RX12 131 yX12_fails cX12_fails 2 (some .int) 1 := ⟨mz_tb 1220 (by decide +kernel) rfl, mz_tb 45 (by decide +kernel) rfl, mz_tb 1223 (by decide +kernel) rfl, by decide, by decide, by decide +kernel⟩
theorem im_X12_fails : Cond.instanceMethod yX12_fails ∈ mz_tbl ∧ Cond.selects RX12 yX12_fails yX12_fails ∈ mz_tbl := ⟨mz_tb 1222 (by decide +kernel) rfl, mz_tb 29 (by decide +kernel) rfl⟩
theorem fl_RX12_135 : mz_FL RX12 135 11 2 := ⟨_, _, _, rfl, by decide, mz_tb 966 (by decide +kernel) rfl, cl_11⟩
theorem fl_RX12_13 : mz_FL RX12 13 11 4 := ⟨_, _, _, rfl, by decide, mz_tb 968 (by decide +kernel) rfl, cl_11⟩
theorem fl_RX12_7 : mz_FL RX12 7 11 3 := ⟨_, _, _, rfl, by decide, mz_tb 967 (by decide +kernel) rfl, cl_11⟩
theorem fp_RX12_135 : mz_FP RX12 135 11 2 .int false := ⟨_, _, _, tyX12, rfl, by decide, mz_tb 966 (by decide +kernel) rfl, cl_11, tyX12_ok, nmX12, rfl, rfl, fun q => by cases q⟩
theorem mb_RX12_146 : mz_MB RX12 146 yX12_above cX12_above 4 (some .int) 1 := ⟨mz_tb 1132 (by decide +kernel) rfl, mz_tb 45 (by decide +kernel) rfl, mz_tb 1135 (by decide +kernel) rfl, by decide, by decide, by decide +kernel⟩
theorem im_X12_above : Cond.instanceMethod yX12_above ∈ mz_tbl ∧ Cond.selects RX12 yX12_above yX12_above ∈ mz_tbl := ⟨mz_tb 1134 (by decide +kernel) rfl, mz_tb 17 (by decide +kernel) rfl⟩
theorem mb_RX12_142 : mz_MB RX12 142 yX12_within cX12_within 3 (some .boolean) 3 := ⟨mz_tb 1129 (by decide +kernel) rfl, mz_tb 45 (by decide +kernel) rfl, mz_tb 1131 (by decide +kernel) rfl, by decide, by decide, by decide +kernel⟩
theorem im_X12_within : Cond.static yX12_within ∈ mz_tbl := mz_tb 1130 (by decide +kernel) rfl
theorem mb_RX12_138 : mz_MB RX12 138 yX12_isClass cX12_isClass 2 (some .boolean) 1 := ⟨mz_tb 1125 (by decide +kernel) rfl, mz_tb 45 (by decide +kernel) rfl, mz_tb 1128 (by decide +kernel) rfl, by decide, by decide, by decide +kernel⟩
theorem im_X12_isClass : Cond.instanceMethod yX12_isClass ∈ mz_tbl ∧ Cond.selects RX12 yX12_isClass yX12_isClass ∈ mz_tbl := ⟨mz_tb 1127 (by decide +kernel) rfl, mz_tb 16 (by decide +kernel) rfl⟩
theorem fl_RX12_149 : mz_FL RX12 149 11 17 := ⟨_, _, _, rfl, by decide, mz_tb 981 (by decide +kernel) rfl, cl_11⟩
theorem fl_RX12_50 : mz_FL RX12 50 11 16 := ⟨_, _, _, rfl, by decide, mz_tb 980 (by decide +kernel) rfl, cl_11⟩
theorem fp_RX12_149 : mz_FP RX12 149 11 17 .int false := ⟨_, _, _, tyX12, rfl, by decide, mz_tb 981 (by decide +kernel) rfl, cl_11, tyX12_ok, nmX12, rfl, rfl, fun q => by cases q⟩
theorem fl_RX12_53 : mz_FL RX12 53 11 18 := ⟨_, _, _, rfl, by decide, mz_tb 982 (by decide +kernel) rfl, cl_11⟩
theorem fl_RX12_56 : mz_FL RX12 56 11 19 := ⟨_, _, _, rfl, by decide, mz_tb 983 (by decide +kernel) rfl, cl_11⟩
theorem fl_RX12_16 : mz_FL RX12 16 11 5 := ⟨_, _, _, rfl, by decide, mz_tb 969 (by decide +kernel) rfl, cl_11⟩
theorem fl_RX12_19 : mz_FL RX12 19 11 6 := ⟨_, _, _, rfl, by decide, mz_tb 970 (by decide +kernel) rfl, cl_11⟩
theorem mb_RX12_156 : mz_MB RX12 156 yX12_isOnWay cX12_isOnWay 4 (some .boolean) 1 := ⟨mz_tb 1152 (by decide +kernel) rfl, mz_tb 45 (by decide +kernel) rfl, mz_tb 1155 (by decide +kernel) rfl, by decide, by decide, by decide +kernel⟩
theorem im_X12_isOnWay : Cond.instanceMethod yX12_isOnWay ∈ mz_tbl ∧ Cond.selects RX12 yX12_isOnWay yX12_isOnWay ∈ mz_tbl := ⟨mz_tb 1154 (by decide +kernel) rfl, mz_tb 21 (by decide +kernel) rfl⟩
theorem mb_RX12_152 : mz_MB RX12 152 yX12_put cX12_put 2 none 1 := ⟨mz_tb 1148 (by decide +kernel) rfl, mz_tb 45 (by decide +kernel) rfl, mz_tb 1151 (by decide +kernel) rfl, by decide, by decide, by decide +kernel⟩
theorem im_X12_put : Cond.instanceMethod yX12_put ∈ mz_tbl ∧ Cond.selects RX12 yX12_put yX12_put ∈ mz_tbl := ⟨mz_tb 1150 (by decide +kernel) rfl, mz_tb 20 (by decide +kernel) rfl⟩
theorem mb_RX12_159 : mz_MB RX12 159 yX12_findWay cX12_findWay 7 none 1 := ⟨mz_tb 1144 (by decide +kernel) rfl, mz_tb 45 (by decide +kernel) rfl, mz_tb 1147 (by decide +kernel) rfl, by decide, by decide, by decide +kernel⟩
theorem im_X12_findWay : Cond.instanceMethod yX12_findWay ∈ mz_tbl ∧ Cond.selects RX12 yX12_findWay yX12_findWay ∈ mz_tbl := ⟨mz_tb 1146 (by decide +kernel) rfl, mz_tb 19 (by decide +kernel) rfl⟩
theorem mb_RX12_162 : mz_MB RX12 162 yX12_isBelow cX12_isBelow 3 (some .boolean) 2 := ⟨mz_tb 1140 (by decide +kernel) rfl, mz_tb 45 (by decide +kernel) rfl, mz_tb 1143 (by decide +kernel) rfl, by decide, by decide, by decide +kernel⟩
theorem im_X12_isBelow : Cond.instanceMethod yX12_isBelow ∈ mz_tbl ∧ Cond.selects RX12 yX12_isBelow yX12_isBelow ∈ mz_tbl := ⟨mz_tb 1142 (by decide +kernel) rfl, mz_tb 18 (by decide +kernel) rfl⟩
theorem fl_RX12_22 : mz_FL RX12 22 11 7 := ⟨_, _, _, rfl, by decide, mz_tb 971 (by decide +kernel) rfl, cl_11⟩
theorem fl_RX12_25 : mz_FL RX12 25 11 8 := ⟨_, _, _, rfl, by decide, mz_tb 972 (by decide +kernel) rfl, cl_11⟩
theorem fl_RX12_31 : mz_FL RX12 31 11 10 := ⟨_, _, _, rfl, by decide, mz_tb 974 (by decide +kernel) rfl, cl_11⟩
theorem fl_RX12_28 : mz_FL RX12 28 11 9 := ⟨_, _, _, rfl, by decide, mz_tb 973 (by decide +kernel) rfl, cl_11⟩
theorem fl_RX12_35 : mz_FL RX12 35 11 11 := ⟨_, _, _, rfl, by decide, mz_tb 975 (by decide +kernel) rfl, cl_11⟩
theorem fl_RX12_38 : mz_FL RX12 38 11 12 := ⟨_, _, _, rfl, by decide, mz_tb 976 (by decide +kernel) rfl, cl_11⟩
theorem fl_RX12_41 : mz_FL RX12 41 11 13 := ⟨_, _, _, rfl, by decide, mz_tb 977 (by decide +kernel) rfl, cl_11⟩
theorem fl_RX12_44 : mz_FL RX12 44 11 14 := ⟨_, _, _, rfl, by decide, mz_tb 978 (by decide +kernel) rfl, cl_11⟩
theorem mb_RX12_166 : mz_MB RX12 166 yX12_cost cX12_cost 2 (some .int) 1 := ⟨mz_tb 1168 (by decide +kernel) rfl, mz_tb 45 (by decide +kernel) rfl, mz_tb 1171 (by decide +kernel) rfl, by decide, by decide, by decide +kernel⟩
theorem im_X12_cost : Cond.instanceMethod yX12_cost ∈ mz_tbl ∧ Cond.selects RX12 yX12_cost yX12_cost ∈ mz_tbl := ⟨mz_tb 1170 (by decide +kernel) rfl, mz_tb 22 (by decide +kernel) rfl⟩
theorem fp_RX12_169 : mz_FP RX12 169 11 20 .int false := ⟨_, _, _, tyX12, rfl, by decide, mz_tb 984 (by decide +kernel) rfl, cl_11, tyX12_ok, nmX12, rfl, rfl, fun q => by cases q⟩
theorem fp_RX12_172 : mz_FP RX12 172 11 21 .int false := ⟨_, _, _, tyX12, rfl, by decide, mz_tb 985 (by decide +kernel) rfl, cl_11, tyX12_ok, nmX12, rfl, rfl, fun q => by cases q⟩
theorem fp_RX12_175 : mz_FP RX12 175 11 22 .int false := ⟨_, _, _, tyX12, rfl, by decide, mz_tb 986 (by decide +kernel) rfl, cl_11, tyX12_ok, nmX12, rfl, rfl, fun q => by cases q⟩
theorem fp_RX12_178 : mz_FP RX12 178 11 23 .int false := ⟨_, _, _, tyX12, rfl, by decide, mz_tb 987 (by decide +kernel) rfl, cl_11, tyX12_ok, nmX12, rfl, rfl, fun q => by cases q⟩
theorem fp_RX12_181 : mz_FP RX12 181 11 24 .int false := ⟨_, _, _, tyX12, rfl, by decide, mz_tb 988 (by decide +kernel) rfl, cl_11, tyX12_ok, nmX12, rfl, rfl, fun q => by cases q⟩
theorem mb_RX12_184 : mz_MB RX12 184 yX12_breaks cX12_breaks 5 none 4 := ⟨mz_tb 1192 (by decide +kernel) rfl, mz_tb 45 (by decide +kernel) rfl, mz_tb 1195 (by decide +kernel) rfl, by decide, by decide, by decide +kernel⟩
theorem im_X12_breaks : Cond.instanceMethod yX12_breaks ∈ mz_tbl ∧ Cond.selects RX12 yX12_breaks yX12_breaks ∈ mz_tbl := ⟨mz_tb 1194 (by decide +kernel) rfl, mz_tb 25 (by decide +kernel) rfl⟩
theorem fl_RX12_59 : mz_FL RX12 59 11 25 := ⟨_, _, _, rfl, by decide, mz_tb 989 (by decide +kernel) rfl, cl_11⟩
theorem mb_RX12_188 : mz_MB RX12 188 yX12_laneOf cX12_laneOf 3 (some .int) 2 := ⟨mz_tb 1200 (by decide +kernel) rfl, mz_tb 45 (by decide +kernel) rfl, mz_tb 1203 (by decide +kernel) rfl, by decide, by decide, by decide +kernel⟩
theorem im_X12_laneOf : Cond.instanceMethod yX12_laneOf ∈ mz_tbl ∧ Cond.selects RX12 yX12_laneOf yX12_laneOf ∈ mz_tbl := ⟨mz_tb 1202 (by decide +kernel) rfl, mz_tb 27 (by decide +kernel) rfl⟩
theorem fl_RX12_181 : mz_FL RX12 181 11 24 := ⟨_, _, _, rfl, by decide, mz_tb 988 (by decide +kernel) rfl, cl_11⟩
theorem mb_RX12_196 : mz_MB RX12 196 yX12_enter cX12_enter 8 (some .boolean) 1 := ⟨mz_tb 1196 (by decide +kernel) rfl, mz_tb 45 (by decide +kernel) rfl, mz_tb 1199 (by decide +kernel) rfl, by decide, by decide, by decide +kernel⟩
theorem im_X12_enter : Cond.instanceMethod yX12_enter ∈ mz_tbl ∧ Cond.selects RX12 yX12_enter yX12_enter ∈ mz_tbl := ⟨mz_tb 1198 (by decide +kernel) rfl, mz_tb 26 (by decide +kernel) rfl⟩
theorem mb_RX12_192 : mz_MB RX12 192 yX12_hasStaticKey cX12_hasStaticKey 5 (some .boolean) 0 := ⟨mz_tb 1188 (by decide +kernel) rfl, mz_tb 45 (by decide +kernel) rfl, mz_tb 1191 (by decide +kernel) rfl, by decide, by decide, by decide +kernel⟩
theorem im_X12_hasStaticKey : Cond.instanceMethod yX12_hasStaticKey ∈ mz_tbl ∧ Cond.selects RX12 yX12_hasStaticKey yX12_hasStaticKey ∈ mz_tbl := ⟨mz_tb 1190 (by decide +kernel) rfl, mz_tb 24 (by decide +kernel) rfl⟩
theorem fl_RX12_169 : mz_FL RX12 169 11 20 := ⟨_, _, _, rfl, by decide, mz_tb 984 (by decide +kernel) rfl, cl_11⟩
theorem fl_RX12_72 : mz_FL RX12 72 11 31 := ⟨_, _, _, rfl, by decide, mz_tb 995 (by decide +kernel) rfl, cl_11⟩
theorem mb_RX12_199 : mz_MB RX12 199 yX12_makeTable cX12_makeTable 5 none 1 := ⟨mz_tb 1184 (by decide +kernel) rfl, mz_tb 45 (by decide +kernel) rfl, mz_tb 1187 (by decide +kernel) rfl, by decide, by decide, by decide +kernel⟩
theorem im_X12_makeTable : Cond.instanceMethod yX12_makeTable ∈ mz_tbl ∧ Cond.selects RX12 yX12_makeTable yX12_makeTable ∈ mz_tbl := ⟨mz_tb 1186 (by decide +kernel) rfl, mz_tb 23 (by decide +kernel) rfl⟩
theorem fp_RX12_202 : mz_FP RX12 202 11 26 .int false := ⟨_, _, _, tyX12, rfl, by decide, mz_tb 990 (by decide +kernel) rfl, cl_11, tyX12_ok, nmX12, rfl, rfl, fun q => by cases q⟩
theorem fl_RX12_172 : mz_FL RX12 172 11 21 := ⟨_, _, _, rfl, by decide, mz_tb 985 (by decide +kernel) rfl, cl_11⟩
theorem fl_RX12_175 : mz_FL RX12 175 11 22 := ⟨_, _, _, rfl, by decide, mz_tb 986 (by decide +kernel) rfl, cl_11⟩
theorem fl_RX12_178 : mz_FL RX12 178 11 23 := ⟨_, _, _, rfl, by decide, mz_tb 987 (by decide +kernel) rfl, cl_11⟩
theorem fp_RX12_205 : mz_FP RX12 205 11 30 .int false := ⟨_, _, _, tyX12, rfl, by decide, mz_tb 994 (by decide +kernel) rfl, cl_11, tyX12_ok, nmX12, rfl, rfl, fun q => by cases q⟩
theorem fl_RX12_202 : mz_FL RX12 202 11 26 := ⟨_, _, _, rfl, by decide, mz_tb 990 (by decide +kernel) rfl, cl_11⟩
theorem fl_RX12_62 : mz_FL RX12 62 11 27 := ⟨_, _, _, rfl, by decide, mz_tb 991 (by decide +kernel) rfl, cl_11⟩
theorem fl_RX12_66 : mz_FL RX12 66 11 28 := ⟨_, _, _, rfl, by decide, mz_tb 992 (by decide +kernel) rfl, cl_11⟩
theorem fl_RX12_69 : mz_FL RX12 69 11 29 := ⟨_, _, _, rfl, by decide, mz_tb 993 (by decide +kernel) rfl, cl_11⟩
theorem fl_RX12_205 : mz_FL RX12 205 11 30 := ⟨_, _, _, rfl, by decide, mz_tb 994 (by decide +kernel) rfl, cl_11⟩
theorem fl_RX12_47 : mz_FL RX12 47 11 15 := ⟨_, _, _, rfl, by decide, mz_tb 979 (by decide +kernel) rfl, cl_11⟩
theorem mb_RX12_208 : mz_MB RX12 208 yX12_isConcrete cX12_isConcrete 2 (some .boolean) 1 := ⟨mz_tb 1216 (by decide +kernel) rfl, mz_tb 45 (by decide +kernel) rfl, mz_tb 1219 (by decide +kernel) rfl, by decide, by decide, by decide +kernel⟩
theorem im_X12_isConcrete : Cond.instanceMethod yX12_isConcrete ∈ mz_tbl ∧ Cond.selects RX12 yX12_isConcrete yX12_isConcrete ∈ mz_tbl := ⟨mz_tb 1218 (by decide +kernel) rfl, mz_tb 28 (by decide +kernel) rfl⟩
theorem fl_RX12_211 : mz_FL RX12 211 11 32 := ⟨_, _, _, rfl, by decide, mz_tb 996 (by decide +kernel) rfl, cl_11⟩
theorem mb_RX12_214 : mz_MB RX12 214 yX12_isObject cX12_isObject 2 (some .boolean) 1 := ⟨mz_tb 1245 (by decide +kernel) rfl, mz_tb 45 (by decide +kernel) rfl, mz_tb 1248 (by decide +kernel) rfl, by decide, by decide, by decide +kernel⟩
theorem im_X12_isObject : Cond.instanceMethod yX12_isObject ∈ mz_tbl ∧ Cond.selects RX12 yX12_isObject yX12_isObject ∈ mz_tbl := ⟨mz_tb 1247 (by decide +kernel) rfl, mz_tb 31 (by decide +kernel) rfl⟩
theorem fl_RX12_78 : mz_FL RX12 78 11 34 := ⟨_, _, _, rfl, by decide, mz_tb 998 (by decide +kernel) rfl, cl_11⟩
theorem fl_RX12_106 : mz_FL RX12 106 11 43 := ⟨_, _, _, rfl, by decide, mz_tb 1007 (by decide +kernel) rfl, cl_11⟩
theorem fl_RX12_84 : mz_FL RX12 84 11 36 := ⟨_, _, _, rfl, by decide, mz_tb 1000 (by decide +kernel) rfl, cl_11⟩
theorem fl_RX12_96 : mz_FL RX12 96 11 40 := ⟨_, _, _, rfl, by decide, mz_tb 1004 (by decide +kernel) rfl, cl_11⟩
theorem mb_RX12_219 : mz_MB RX12 219 yX12_clear cX12_clear 5 none 3 := ⟨mz_tb 1236 (by decide +kernel) rfl, mz_tb 45 (by decide +kernel) rfl, mz_tb 1239 (by decide +kernel) rfl, by decide, by decide, by decide +kernel⟩
theorem im_X12_clear : Cond.instanceMethod yX12_clear ∈ mz_tbl ∧ Cond.selects RX12 yX12_clear yX12_clear ∈ mz_tbl := ⟨mz_tb 1238 (by decide +kernel) rfl, mz_tb 30 (by decide +kernel) rfl⟩
theorem fp_RX12_211 : mz_FP RX12 211 11 32 .int false := ⟨_, _, _, tyX12, rfl, by decide, mz_tb 996 (by decide +kernel) rfl, cl_11, tyX12_ok, nmX12, rfl, rfl, fun q => by cases q⟩
theorem fl_RX12_81 : mz_FL RX12 81 11 35 := ⟨_, _, _, rfl, by decide, mz_tb 999 (by decide +kernel) rfl, cl_11⟩
theorem fl_RX12_87 : mz_FL RX12 87 11 37 := ⟨_, _, _, rfl, by decide, mz_tb 1001 (by decide +kernel) rfl, cl_11⟩
theorem fl_RX12_90 : mz_FL RX12 90 11 38 := ⟨_, _, _, rfl, by decide, mz_tb 1002 (by decide +kernel) rfl, cl_11⟩
theorem fl_RX12_93 : mz_FL RX12 93 11 39 := ⟨_, _, _, rfl, by decide, mz_tb 1003 (by decide +kernel) rfl, cl_11⟩
theorem fl_RX12_75 : mz_FL RX12 75 11 33 := ⟨_, _, _, rfl, by decide, mz_tb 997 (by decide +kernel) rfl, cl_11⟩
theorem mb_RX12_223 : mz_MB RX12 223 yX12_slotOf cX12_slotOf 5 (some .int) 2 := ⟨mz_tb 1253 (by decide +kernel) rfl, mz_tb 45 (by decide +kernel) rfl, mz_tb 1256 (by decide +kernel) rfl, by decide, by decide, by decide +kernel⟩
theorem im_X12_slotOf : Cond.instanceMethod yX12_slotOf ∈ mz_tbl ∧ Cond.selects RX12 yX12_slotOf yX12_slotOf ∈ mz_tbl := ⟨mz_tb 1255 (by decide +kernel) rfl, mz_tb 32 (by decide +kernel) rfl⟩
theorem mb_RX12_226 : mz_MB RX12 226 yX12_isSlot cX12_isSlot 3 (some .boolean) 2 := ⟨mz_tb 1261 (by decide +kernel) rfl, mz_tb 45 (by decide +kernel) rfl, mz_tb 1264 (by decide +kernel) rfl, by decide, by decide, by decide +kernel⟩
theorem im_X12_isSlot : Cond.instanceMethod yX12_isSlot ∈ mz_tbl ∧ Cond.selects RX12 yX12_isSlot yX12_isSlot ∈ mz_tbl := ⟨mz_tb 1263 (by decide +kernel) rfl, mz_tb 33 (by decide +kernel) rfl⟩
theorem fl_RX12_99 : mz_FL RX12 99 11 41 := ⟨_, _, _, rfl, by decide, mz_tb 1005 (by decide +kernel) rfl, cl_11⟩
theorem fl_RX12_102 : mz_FL RX12 102 11 42 := ⟨_, _, _, rfl, by decide, mz_tb 1006 (by decide +kernel) rfl, cl_11⟩
theorem mb_RX12_229 : mz_MB RX12 229 yX12_placeOf cX12_placeOf 4 (some .int) 3 := ⟨mz_tb 1285 (by decide +kernel) rfl, mz_tb 45 (by decide +kernel) rfl, mz_tb 1288 (by decide +kernel) rfl, by decide, by decide, by decide +kernel⟩
theorem im_X12_placeOf : Cond.instanceMethod yX12_placeOf ∈ mz_tbl ∧ Cond.selects RX12 yX12_placeOf yX12_placeOf ∈ mz_tbl := ⟨mz_tb 1287 (by decide +kernel) rfl, mz_tb 34 (by decide +kernel) rfl⟩
theorem mb_RX12_233 : mz_MB RX12 233 yX12_failsLong cX12_failsLong 2 (some .long) 1 := ⟨mz_tb 1289 (by decide +kernel) rfl, mz_tb 45 (by decide +kernel) rfl, mz_tb 1292 (by decide +kernel) rfl, by decide, by decide, by decide +kernel⟩
theorem im_X12_failsLong : Cond.instanceMethod yX12_failsLong ∈ mz_tbl ∧ Cond.selects RX12 yX12_failsLong yX12_failsLong ∈ mz_tbl := ⟨mz_tb 1291 (by decide +kernel) rfl, mz_tb 35 (by decide +kernel) rfl⟩
theorem mb_RX12_241 : mz_MB RX12 241 yJ_d2l cJ_d2l 2 (some .long) 1 := ⟨mz_tb 1311 (by decide +kernel) rfl, mz_tb 55 (by decide +kernel) rfl, mz_tb 1313 (by decide +kernel) rfl, by decide, by decide, by decide +kernel⟩
theorem im_J_d2l : Cond.static yJ_d2l ∈ mz_tbl := mz_tb 1312 (by decide +kernel) rfl
theorem mb_RX12_247 : mz_MB RX12 247 yX12_isNumber cX12_isNumber 2 (some .boolean) 1 := ⟨mz_tb 1300 (by decide +kernel) rfl, mz_tb 45 (by decide +kernel) rfl, mz_tb 1302 (by decide +kernel) rfl, by decide, by decide, by decide +kernel⟩
theorem im_X12_isNumber : Cond.static yX12_isNumber ∈ mz_tbl := mz_tb 1301 (by decide +kernel) rfl
theorem mb_RX12_255 : mz_MB RX12 255 yX12_ofFloat cX12_ofFloat 1 (some .long) 1 := ⟨mz_tb 1308 (by decide +kernel) rfl, mz_tb 45 (by decide +kernel) rfl, mz_tb 1310 (by decide +kernel) rfl, by decide, by decide, by decide +kernel⟩
theorem im_X12_ofFloat : Cond.static yX12_ofFloat ∈ mz_tbl := mz_tb 1309 (by decide +kernel) rfl
theorem mb_RX12_261 : mz_MB RX12 261 yX12_comes cX12_comes 3 (some .long) 2 := ⟨mz_tb 1297 (by decide +kernel) rfl, mz_tb 45 (by decide +kernel) rfl, mz_tb 1299 (by decide +kernel) rfl, by decide, by decide, by decide +kernel⟩
theorem im_X12_comes : Cond.static yX12_comes ∈ mz_tbl := mz_tb 1298 (by decide +kernel) rfl
theorem mb_RX12_265 : mz_MB RX12 265 yX12_isWidened cX12_isWidened 2 (some .boolean) 2 := ⟨mz_tb 1334 (by decide +kernel) rfl, mz_tb 45 (by decide +kernel) rfl, mz_tb 1336 (by decide +kernel) rfl, by decide, by decide, by decide +kernel⟩
theorem im_X12_isWidened : Cond.static yX12_isWidened ∈ mz_tbl := mz_tb 1335 (by decide +kernel) rfl
theorem mb_RX12_268 : mz_MB RX12 268 yX12_widened cX12_widened 4 (some .long) 3 := ⟨mz_tb 1337 (by decide +kernel) rfl, mz_tb 45 (by decide +kernel) rfl, mz_tb 1339 (by decide +kernel) rfl, by decide, by decide, by decide +kernel⟩
theorem im_X12_widened : Cond.static yX12_widened ∈ mz_tbl := mz_tb 1338 (by decide +kernel) rfl
theorem mb_RX12_272 : mz_MB RX12 272 yX12_areCellsAlike cX12_areCellsAlike 7 (some .boolean) 4 := ⟨mz_tb 1360 (by decide +kernel) rfl, mz_tb 45 (by decide +kernel) rfl, mz_tb 1363 (by decide +kernel) rfl, by decide, by decide, by decide +kernel⟩
theorem im_X12_areCellsAlike : Cond.instanceMethod yX12_areCellsAlike ∈ mz_tbl ∧ Cond.selects RX12 yX12_areCellsAlike yX12_areCellsAlike ∈ mz_tbl := ⟨mz_tb 1362 (by decide +kernel) rfl, mz_tb 37 (by decide +kernel) rfl⟩
theorem mb_RX12_276 : mz_MB RX12 276 yX12_areSlotsAlike cX12_areSlotsAlike 7 (some .boolean) 2 := ⟨mz_tb 1356 (by decide +kernel) rfl, mz_tb 45 (by decide +kernel) rfl, mz_tb 1359 (by decide +kernel) rfl, by decide, by decide, by decide +kernel⟩
theorem im_X12_areSlotsAlike : Cond.instanceMethod yX12_areSlotsAlike ∈ mz_tbl ∧ Cond.selects RX12 yX12_areSlotsAlike yX12_areSlotsAlike ∈ mz_tbl := ⟨mz_tb 1358 (by decide +kernel) rfl, mz_tb 36 (by decide +kernel) rfl⟩
theorem fp_RX12_279 : mz_FP RX12 279 11 44 .boolean false := ⟨_, _, _, tyX12, rfl, by decide, mz_tb 1008 (by decide +kernel) rfl, cl_11, tyX12_ok, nmX12, rfl, rfl, fun q => by cases q⟩
theorem fp_RX12_283 : mz_FP RX12 283 11 45 .int false := ⟨_, _, _, tyX12, rfl, by decide, mz_tb 1009 (by decide +kernel) rfl, cl_11, tyX12_ok, nmX12, rfl, rfl, fun q => by cases q⟩
theorem fp_RX12_286 : mz_FP RX12 286 11 46 .int false := ⟨_, _, _, tyX12, rfl, by decide, mz_tb 1010 (by decide +kernel) rfl, cl_11, tyX12_ok, nmX12, rfl, rfl, fun q => by cases q⟩
theorem fl_RX12_110 : mz_FL RX12 110 11 47 := ⟨_, _, _, rfl, by decide, mz_tb 1011 (by decide +kernel) rfl, cl_11⟩
theorem fl_RX12_113 : mz_FL RX12 113 11 48 := ⟨_, _, _, rfl, by decide, mz_tb 1012 (by decide +kernel) rfl, cl_11⟩
theorem fl_RX12_279 : mz_FL RX12 279 11 44 := ⟨_, _, _, rfl, by decide, mz_tb 1008 (by decide +kernel) rfl, cl_11⟩
theorem fl_RX12_286 : mz_FL RX12 286 11 46 := ⟨_, _, _, rfl, by decide, mz_tb 1010 (by decide +kernel) rfl, cl_11⟩
theorem mb_RX12_294 : mz_MB RX12 294 yX12_nearest cX12_nearest 4 (some .double) 1 := ⟨mz_tb 1383 (by decide +kernel) rfl, mz_tb 45 (by decide +kernel) rfl, mz_tb 1385 (by decide +kernel) rfl, by decide, by decide, by decide +kernel⟩
theorem im_X12_nearest : Cond.static yX12_nearest ∈ mz_tbl := mz_tb 1384 (by decide +kernel) rfl
theorem mb_RX12_291 : mz_MB RX12 291 yX12_isFinite cX12_isFinite 2 (some .boolean) 1 := ⟨mz_tb 1380 (by decide +kernel) rfl, mz_tb 45 (by decide +kernel) rfl, mz_tb 1382 (by decide +kernel) rfl, by decide, by decide, by decide +kernel⟩
theorem im_X12_isFinite : Cond.static yX12_isFinite ∈ mz_tbl := mz_tb 1381 (by decide +kernel) rfl
theorem fl_RX12_283 : mz_FL RX12 283 11 45 := ⟨_, _, _, rfl, by decide, mz_tb 1009 (by decide +kernel) rfl, cl_11⟩
theorem mb_RX12_298 : mz_MB RX12 298 yX12_below_ cX12_below_ 6 (some .double) 1 := ⟨mz_tb 1391 (by decide +kernel) rfl, mz_tb 45 (by decide +kernel) rfl, mz_tb 1393 (by decide +kernel) rfl, by decide, by decide, by decide +kernel⟩
theorem im_X12_below_ : Cond.static yX12_below_ ∈ mz_tbl := mz_tb 1392 (by decide +kernel) rfl
theorem fl_RX12_122 : mz_FL RX12 122 11 51 := ⟨_, _, _, rfl, by decide, mz_tb 1015 (by decide +kernel) rfl, cl_11⟩
theorem fl_RX12_116 : mz_FL RX12 116 11 49 := ⟨_, _, _, rfl, by decide, mz_tb 1013 (by decide +kernel) rfl, cl_11⟩
theorem fl_RX12_119 : mz_FL RX12 119 11 50 := ⟨_, _, _, rfl, by decide, mz_tb 1014 (by decide +kernel) rfl, cl_11⟩
theorem mb_RX12_301 : mz_MB RX12 301 yX12_takes cX12_takes 3 (some .boolean) 2 := ⟨mz_tb 1402 (by decide +kernel) rfl, mz_tb 45 (by decide +kernel) rfl, mz_tb 1405 (by decide +kernel) rfl, by decide, by decide, by decide +kernel⟩
theorem im_X12_takes : Cond.instanceMethod yX12_takes ∈ mz_tbl ∧ Cond.selects RX12 yX12_takes yX12_takes ∈ mz_tbl := ⟨mz_tb 1404 (by decide +kernel) rfl, mz_tb 38 (by decide +kernel) rfl⟩
theorem fl_RX12_125 : mz_FL RX12 125 11 0 := ⟨_, _, _, rfl, by decide, mz_tb 964 (by decide +kernel) rfl, cl_11⟩

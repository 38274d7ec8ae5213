-- ===== PART A: goes FIRST, ahead of the names: the tables' words, and 'selects' of the private methods out of them =====
/-- a private method of a class that the tables say can be made, by its rows of tables_1 -/
def lw_okq (q : MethodName × Nat) : Prop := (q.1.cls ≠ "java/lang/invoke/MethodHandle" ∧ q.1.cls ≠ "java/lang/invoke/VarHandle") ∧ Cond.instantiable q.1.cls q.2 ∈ tables_1 ∧ Cond.privateMethod q.1 ∈ tables_1 ∧ Cond.instanceMethod q.1 ∈ tables_1
theorem lw_p0 : lw_okq (⟨"MemberScanner$Types", "meet", "(I)Z"⟩, 5) := ⟨⟨by decide +kernel, by decide +kernel⟩, List.mem_of_getElem? (i := 28) (by decide +kernel), List.mem_of_getElem? (i := 283) (by decide +kernel), List.mem_of_getElem? (i := 284) (by decide +kernel)⟩
theorem lw_p1 : lw_okq (⟨"MemberScanner$Types", "meetGuises", "(II)V"⟩, 5) := ⟨⟨by decide +kernel, by decide +kernel⟩, List.mem_of_getElem? (i := 28) (by decide +kernel), List.mem_of_getElem? (i := 288) (by decide +kernel), List.mem_of_getElem? (i := 289) (by decide +kernel)⟩
theorem lw_p2 : lw_okq (⟨"MemberScanner$Table", "forget", "()V"⟩, 7) := ⟨⟨by decide +kernel, by decide +kernel⟩, List.mem_of_getElem? (i := 57) (by decide +kernel), List.mem_of_getElem? (i := 377) (by decide +kernel), List.mem_of_getElem? (i := 378) (by decide +kernel)⟩
theorem lw_p3 : lw_okq (⟨"MemberScanner$Table", "takeMembers", "(ILMemberScanner$Type;)V"⟩, 7) := ⟨⟨by decide +kernel, by decide +kernel⟩, List.mem_of_getElem? (i := 57) (by decide +kernel), List.mem_of_getElem? (i := 387) (by decide +kernel), List.mem_of_getElem? (i := 388) (by decide +kernel)⟩
theorem lw_p4 : lw_okq (⟨"MemberScanner$Table", "takeMember", "(ILMemberScanner$Member;)V"⟩, 7) := ⟨⟨by decide +kernel, by decide +kernel⟩, List.mem_of_getElem? (i := 57) (by decide +kernel), List.mem_of_getElem? (i := 391) (by decide +kernel), List.mem_of_getElem? (i := 392) (by decide +kernel)⟩
theorem lw_p5 : lw_okq (⟨"MemberScanner$Table", "tell", "(IIII)V"⟩, 7) := ⟨⟨by decide +kernel, by decide +kernel⟩, List.mem_of_getElem? (i := 57) (by decide +kernel), List.mem_of_getElem? (i := 399) (by decide +kernel), List.mem_of_getElem? (i := 400) (by decide +kernel)⟩
theorem lw_p6 : lw_okq (⟨"MemberScanner$Table", "gather", "()V"⟩, 7) := ⟨⟨by decide +kernel, by decide +kernel⟩, List.mem_of_getElem? (i := 57) (by decide +kernel), List.mem_of_getElem? (i := 408) (by decide +kernel), List.mem_of_getElem? (i := 409) (by decide +kernel)⟩
theorem lw_p7 : lw_okq (⟨"MemberScanner$Table", "lookForClash", "()V"⟩, 7) := ⟨⟨by decide +kernel, by decide +kernel⟩, List.mem_of_getElem? (i := 57) (by decide +kernel), List.mem_of_getElem? (i := 412) (by decide +kernel), List.mem_of_getElem? (i := 413) (by decide +kernel)⟩
theorem lw_p8 : lw_okq (⟨"MemberScanner$Table", "lookForSecondKey", "()V"⟩, 7) := ⟨⟨by decide +kernel, by decide +kernel⟩, List.mem_of_getElem? (i := 57) (by decide +kernel), List.mem_of_getElem? (i := 416) (by decide +kernel), List.mem_of_getElem? (i := 417) (by decide +kernel)⟩
theorem lw_p9 : lw_okq (⟨"MemberScanner", "comeTo", "(I)I"⟩, 10) := ⟨⟨by decide +kernel, by decide +kernel⟩, List.mem_of_getElem? (i := 20) (by decide +kernel), List.mem_of_getElem? (i := 440) (by decide +kernel), List.mem_of_getElem? (i := 441) (by decide +kernel)⟩
theorem lw_p10 : lw_okq (⟨"MemberScanner", "addThing", "(LMemberScanner$Thing;)I"⟩, 10) := ⟨⟨by decide +kernel, by decide +kernel⟩, List.mem_of_getElem? (i := 20) (by decide +kernel), List.mem_of_getElem? (i := 531) (by decide +kernel), List.mem_of_getElem? (i := 532) (by decide +kernel)⟩
theorem lw_p11 : lw_okq (⟨"MemberScanner", "thingOf", "(I)LMemberScanner$Thing;"⟩, 10) := ⟨⟨by decide +kernel, by decide +kernel⟩, List.mem_of_getElem? (i := 20) (by decide +kernel), List.mem_of_getElem? (i := 539) (by decide +kernel), List.mem_of_getElem? (i := 540) (by decide +kernel)⟩
theorem lw_p12 : lw_okq (⟨"MemberScanner", "slotOf", "(II)LMemberScanner$Slot;"⟩, 10) := ⟨⟨by decide +kernel, by decide +kernel⟩, List.mem_of_getElem? (i := 20) (by decide +kernel), List.mem_of_getElem? (i := 555) (by decide +kernel), List.mem_of_getElem? (i := 556) (by decide +kernel)⟩
theorem lw_p13 : lw_okq (⟨"MemberScanner", "zeroAfter", "(I)J"⟩, 10) := ⟨⟨by decide +kernel, by decide +kernel⟩, List.mem_of_getElem? (i := 20) (by decide +kernel), List.mem_of_getElem? (i := 622) (by decide +kernel), List.mem_of_getElem? (i := 623) (by decide +kernel)⟩
theorem lw_p14 : lw_okq (⟨"MemberScanner", "put", "(LMemberScanner$Slot;IIJ)I"⟩, 10) := ⟨⟨by decide +kernel, by decide +kernel⟩, List.mem_of_getElem? (i := 20) (by decide +kernel), List.mem_of_getElem? (i := 667) (by decide +kernel), List.mem_of_getElem? (i := 668) (by decide +kernel)⟩
theorem lw_p15 : lw_okq (⟨"MemberScanner", "columnSlot", "(LMemberScanner$Thing;II)LMemberScanner$Slot;"⟩, 10) := ⟨⟨by decide +kernel, by decide +kernel⟩, List.mem_of_getElem? (i := 20) (by decide +kernel), List.mem_of_getElem? (i := 785) (by decide +kernel), List.mem_of_getElem? (i := 786) (by decide +kernel)⟩
def lw_privs_1 : List (MethodName × Nat) := [(⟨"MemberScanner$Types", "meet", "(I)Z"⟩, 5), (⟨"MemberScanner$Types", "meetGuises", "(II)V"⟩, 5), (⟨"MemberScanner$Table", "forget", "()V"⟩, 7), (⟨"MemberScanner$Table", "takeMembers", "(ILMemberScanner$Type;)V"⟩, 7), (⟨"MemberScanner$Table", "takeMember", "(ILMemberScanner$Member;)V"⟩, 7), (⟨"MemberScanner$Table", "tell", "(IIII)V"⟩, 7), (⟨"MemberScanner$Table", "gather", "()V"⟩, 7), (⟨"MemberScanner$Table", "lookForClash", "()V"⟩, 7), (⟨"MemberScanner$Table", "lookForSecondKey", "()V"⟩, 7), (⟨"MemberScanner", "comeTo", "(I)I"⟩, 10), (⟨"MemberScanner", "addThing", "(LMemberScanner$Thing;)I"⟩, 10), (⟨"MemberScanner", "thingOf", "(I)LMemberScanner$Thing;"⟩, 10), (⟨"MemberScanner", "slotOf", "(II)LMemberScanner$Slot;"⟩, 10), (⟨"MemberScanner", "zeroAfter", "(I)J"⟩, 10), (⟨"MemberScanner", "put", "(LMemberScanner$Slot;IIJ)I"⟩, 10), (⟨"MemberScanner", "columnSlot", "(LMemberScanner$Thing;II)LMemberScanner$Slot;"⟩, 10)]
theorem lw_r1 : ∀ q ∈ lw_privs_1, lw_okq q := List.forall_mem_cons.mpr ⟨lw_p0, List.forall_mem_cons.mpr ⟨lw_p1, List.forall_mem_cons.mpr ⟨lw_p2, List.forall_mem_cons.mpr ⟨lw_p3, List.forall_mem_cons.mpr ⟨lw_p4, List.forall_mem_cons.mpr ⟨lw_p5, List.forall_mem_cons.mpr ⟨lw_p6, List.forall_mem_cons.mpr ⟨lw_p7, List.forall_mem_cons.mpr ⟨lw_p8, List.forall_mem_cons.mpr ⟨lw_p9, List.forall_mem_cons.mpr ⟨lw_p10, List.forall_mem_cons.mpr ⟨lw_p11, List.forall_mem_cons.mpr ⟨lw_p12, List.forall_mem_cons.mpr ⟨lw_p13, List.forall_mem_cons.mpr ⟨lw_p14, List.forall_mem_cons.mpr ⟨lw_p15, fun _ h => absurd h List.not_mem_nil⟩⟩⟩⟩⟩⟩⟩⟩⟩⟩⟩⟩⟩⟩⟩⟩
theorem lw_p16 : lw_okq (⟨"MemberScannerModel", "isClass", "(I)Z"⟩, 52) := ⟨⟨by decide +kernel, by decide +kernel⟩, List.mem_of_getElem? (i := 919) (by decide +kernel), List.mem_of_getElem? (i := 1087) (by decide +kernel), List.mem_of_getElem? (i := 1088) (by decide +kernel)⟩
theorem lw_p17 : lw_okq (⟨"MemberScannerModel", "above", "(I)I"⟩, 52) := ⟨⟨by decide +kernel, by decide +kernel⟩, List.mem_of_getElem? (i := 919) (by decide +kernel), List.mem_of_getElem? (i := 1094) (by decide +kernel), List.mem_of_getElem? (i := 1095) (by decide +kernel)⟩
theorem lw_p18 : lw_okq (⟨"MemberScannerModel", "isBelow", "(II)Z"⟩, 52) := ⟨⟨by decide +kernel, by decide +kernel⟩, List.mem_of_getElem? (i := 919) (by decide +kernel), List.mem_of_getElem? (i := 1102) (by decide +kernel), List.mem_of_getElem? (i := 1103) (by decide +kernel)⟩
theorem lw_p19 : lw_okq (⟨"MemberScannerModel", "findWay", "(I)V"⟩, 52) := ⟨⟨by decide +kernel, by decide +kernel⟩, List.mem_of_getElem? (i := 919) (by decide +kernel), List.mem_of_getElem? (i := 1106) (by decide +kernel), List.mem_of_getElem? (i := 1107) (by decide +kernel)⟩
theorem lw_p20 : lw_okq (⟨"MemberScannerModel", "put", "(I)V"⟩, 52) := ⟨⟨by decide +kernel, by decide +kernel⟩, List.mem_of_getElem? (i := 919) (by decide +kernel), List.mem_of_getElem? (i := 1110) (by decide +kernel), List.mem_of_getElem? (i := 1111) (by decide +kernel)⟩
theorem lw_p21 : lw_okq (⟨"MemberScannerModel", "isOnWay", "(I)Z"⟩, 52) := ⟨⟨by decide +kernel, by decide +kernel⟩, List.mem_of_getElem? (i := 919) (by decide +kernel), List.mem_of_getElem? (i := 1114) (by decide +kernel), List.mem_of_getElem? (i := 1115) (by decide +kernel)⟩
theorem lw_p22 : lw_okq (⟨"MemberScannerModel", "cost", "(I)I"⟩, 52) := ⟨⟨by decide +kernel, by decide +kernel⟩, List.mem_of_getElem? (i := 919) (by decide +kernel), List.mem_of_getElem? (i := 1130) (by decide +kernel), List.mem_of_getElem? (i := 1131) (by decide +kernel)⟩
theorem lw_p23 : lw_okq (⟨"MemberScannerModel", "makeTable", "(I)V"⟩, 52) := ⟨⟨by decide +kernel, by decide +kernel⟩, List.mem_of_getElem? (i := 919) (by decide +kernel), List.mem_of_getElem? (i := 1146) (by decide +kernel), List.mem_of_getElem? (i := 1147) (by decide +kernel)⟩
theorem lw_p24 : lw_okq (⟨"MemberScannerModel", "hasStaticKey", "()Z"⟩, 52) := ⟨⟨by decide +kernel, by decide +kernel⟩, List.mem_of_getElem? (i := 919) (by decide +kernel), List.mem_of_getElem? (i := 1150) (by decide +kernel), List.mem_of_getElem? (i := 1151) (by decide +kernel)⟩
theorem lw_p25 : lw_okq (⟨"MemberScannerModel", "breaks", "(IIII)V"⟩, 52) := ⟨⟨by decide +kernel, by decide +kernel⟩, List.mem_of_getElem? (i := 919) (by decide +kernel), List.mem_of_getElem? (i := 1154) (by decide +kernel), List.mem_of_getElem? (i := 1155) (by decide +kernel)⟩
theorem lw_p26 : lw_okq (⟨"MemberScannerModel", "enter", "(I)Z"⟩, 52) := ⟨⟨by decide +kernel, by decide +kernel⟩, List.mem_of_getElem? (i := 919) (by decide +kernel), List.mem_of_getElem? (i := 1158) (by decide +kernel), List.mem_of_getElem? (i := 1159) (by decide +kernel)⟩
theorem lw_p27 : lw_okq (⟨"MemberScannerModel", "laneOf", "(II)I"⟩, 52) := ⟨⟨by decide +kernel, by decide +kernel⟩, List.mem_of_getElem? (i := 919) (by decide +kernel), List.mem_of_getElem? (i := 1162) (by decide +kernel), List.mem_of_getElem? (i := 1163) (by decide +kernel)⟩
theorem lw_p28 : lw_okq (⟨"MemberScannerModel", "isConcrete", "(I)Z"⟩, 52) := ⟨⟨by decide +kernel, by decide +kernel⟩, List.mem_of_getElem? (i := 919) (by decide +kernel), List.mem_of_getElem? (i := 1178) (by decide +kernel), List.mem_of_getElem? (i := 1179) (by decide +kernel)⟩
theorem lw_p29 : lw_okq (⟨"MemberScannerModel", "fails", "(I)I"⟩, 52) := ⟨⟨by decide +kernel, by decide +kernel⟩, List.mem_of_getElem? (i := 919) (by decide +kernel), List.mem_of_getElem? (i := 1182) (by decide +kernel), List.mem_of_getElem? (i := 1183) (by decide +kernel)⟩
theorem lw_p30 : lw_okq (⟨"MemberScannerModel", "clear", "(III)V"⟩, 52) := ⟨⟨by decide +kernel, by decide +kernel⟩, List.mem_of_getElem? (i := 919) (by decide +kernel), List.mem_of_getElem? (i := 1198) (by decide +kernel), List.mem_of_getElem? (i := 1199) (by decide +kernel)⟩
theorem lw_p31 : lw_okq (⟨"MemberScannerModel", "isObject", "(I)Z"⟩, 52) := ⟨⟨by decide +kernel, by decide +kernel⟩, List.mem_of_getElem? (i := 919) (by decide +kernel), List.mem_of_getElem? (i := 1207) (by decide +kernel), List.mem_of_getElem? (i := 1208) (by decide +kernel)⟩
def lw_privs_2 : List (MethodName × Nat) := [(⟨"MemberScannerModel", "isClass", "(I)Z"⟩, 52), (⟨"MemberScannerModel", "above", "(I)I"⟩, 52), (⟨"MemberScannerModel", "isBelow", "(II)Z"⟩, 52), (⟨"MemberScannerModel", "findWay", "(I)V"⟩, 52), (⟨"MemberScannerModel", "put", "(I)V"⟩, 52), (⟨"MemberScannerModel", "isOnWay", "(I)Z"⟩, 52), (⟨"MemberScannerModel", "cost", "(I)I"⟩, 52), (⟨"MemberScannerModel", "makeTable", "(I)V"⟩, 52), (⟨"MemberScannerModel", "hasStaticKey", "()Z"⟩, 52), (⟨"MemberScannerModel", "breaks", "(IIII)V"⟩, 52), (⟨"MemberScannerModel", "enter", "(I)Z"⟩, 52), (⟨"MemberScannerModel", "laneOf", "(II)I"⟩, 52), (⟨"MemberScannerModel", "isConcrete", "(I)Z"⟩, 52), (⟨"MemberScannerModel", "fails", "(I)I"⟩, 52), (⟨"MemberScannerModel", "clear", "(III)V"⟩, 52), (⟨"MemberScannerModel", "isObject", "(I)Z"⟩, 52)]
theorem lw_r2 : ∀ q ∈ lw_privs_2, lw_okq q := List.forall_mem_cons.mpr ⟨lw_p16, List.forall_mem_cons.mpr ⟨lw_p17, List.forall_mem_cons.mpr ⟨lw_p18, List.forall_mem_cons.mpr ⟨lw_p19, List.forall_mem_cons.mpr ⟨lw_p20, List.forall_mem_cons.mpr ⟨lw_p21, List.forall_mem_cons.mpr ⟨lw_p22, List.forall_mem_cons.mpr ⟨lw_p23, List.forall_mem_cons.mpr ⟨lw_p24, List.forall_mem_cons.mpr ⟨lw_p25, List.forall_mem_cons.mpr ⟨lw_p26, List.forall_mem_cons.mpr ⟨lw_p27, List.forall_mem_cons.mpr ⟨lw_p28, List.forall_mem_cons.mpr ⟨lw_p29, List.forall_mem_cons.mpr ⟨lw_p30, List.forall_mem_cons.mpr ⟨lw_p31, fun _ h => absurd h List.not_mem_nil⟩⟩⟩⟩⟩⟩⟩⟩⟩⟩⟩⟩⟩⟩⟩⟩
theorem lw_p32 : lw_okq (⟨"MemberScannerModel", "slotOf", "(II)I"⟩, 52) := ⟨⟨by decide +kernel, by decide +kernel⟩, List.mem_of_getElem? (i := 919) (by decide +kernel), List.mem_of_getElem? (i := 1215) (by decide +kernel), List.mem_of_getElem? (i := 1216) (by decide +kernel)⟩
theorem lw_p33 : lw_okq (⟨"MemberScannerModel", "isSlot", "(II)Z"⟩, 52) := ⟨⟨by decide +kernel, by decide +kernel⟩, List.mem_of_getElem? (i := 919) (by decide +kernel), List.mem_of_getElem? (i := 1223) (by decide +kernel), List.mem_of_getElem? (i := 1224) (by decide +kernel)⟩
theorem lw_p34 : lw_okq (⟨"MemberScannerModel", "placeOf", "(III)I"⟩, 52) := ⟨⟨by decide +kernel, by decide +kernel⟩, List.mem_of_getElem? (i := 919) (by decide +kernel), List.mem_of_getElem? (i := 1247) (by decide +kernel), List.mem_of_getElem? (i := 1248) (by decide +kernel)⟩
theorem lw_p35 : lw_okq (⟨"MemberScannerModel", "failsLong", "(I)J"⟩, 52) := ⟨⟨by decide +kernel, by decide +kernel⟩, List.mem_of_getElem? (i := 919) (by decide +kernel), List.mem_of_getElem? (i := 1251) (by decide +kernel), List.mem_of_getElem? (i := 1252) (by decide +kernel)⟩
theorem lw_p36 : lw_okq (⟨"MemberScannerModel", "areSlotsAlike", "(II)Z"⟩, 52) := ⟨⟨by decide +kernel, by decide +kernel⟩, List.mem_of_getElem? (i := 919) (by decide +kernel), List.mem_of_getElem? (i := 1318) (by decide +kernel), List.mem_of_getElem? (i := 1319) (by decide +kernel)⟩
theorem lw_p37 : lw_okq (⟨"MemberScannerModel", "areCellsAlike", "(IIII)Z"⟩, 52) := ⟨⟨by decide +kernel, by decide +kernel⟩, List.mem_of_getElem? (i := 919) (by decide +kernel), List.mem_of_getElem? (i := 1322) (by decide +kernel), List.mem_of_getElem? (i := 1323) (by decide +kernel)⟩
theorem lw_p38 : lw_okq (⟨"MemberScannerModel", "takes", "(II)Z"⟩, 52) := ⟨⟨by decide +kernel, by decide +kernel⟩, List.mem_of_getElem? (i := 919) (by decide +kernel), List.mem_of_getElem? (i := 1364) (by decide +kernel), List.mem_of_getElem? (i := 1365) (by decide +kernel)⟩
def lw_privs_3 : List (MethodName × Nat) := [(⟨"MemberScannerModel", "slotOf", "(II)I"⟩, 52), (⟨"MemberScannerModel", "isSlot", "(II)Z"⟩, 52), (⟨"MemberScannerModel", "placeOf", "(III)I"⟩, 52), (⟨"MemberScannerModel", "failsLong", "(I)J"⟩, 52), (⟨"MemberScannerModel", "areSlotsAlike", "(II)Z"⟩, 52), (⟨"MemberScannerModel", "areCellsAlike", "(IIII)Z"⟩, 52), (⟨"MemberScannerModel", "takes", "(II)Z"⟩, 52)]
theorem lw_r3 : ∀ q ∈ lw_privs_3, lw_okq q := List.forall_mem_cons.mpr ⟨lw_p32, List.forall_mem_cons.mpr ⟨lw_p33, List.forall_mem_cons.mpr ⟨lw_p34, List.forall_mem_cons.mpr ⟨lw_p35, List.forall_mem_cons.mpr ⟨lw_p36, List.forall_mem_cons.mpr ⟨lw_p37, List.forall_mem_cons.mpr ⟨lw_p38, fun _ h => absurd h List.not_mem_nil⟩⟩⟩⟩⟩⟩⟩
def lw_privs : List (MethodName × Nat) := lw_privs_1 ++ (lw_privs_2 ++ (lw_privs_3))
def lw_tbl : List Cond := k2_sels lw_privs ++ tables_1
theorem lw_privs_ok : ∀ q ∈ lw_privs, lw_okq q := by
  show ∀ q ∈ lw_privs_1 ++ (lw_privs_2 ++ (lw_privs_3)), lw_okq q
  exact List.forall_mem_append.mpr ⟨lw_r1, List.forall_mem_append.mpr ⟨lw_r2, lw_r3⟩⟩
/-- the streams that the claim lets the run draw from -/
abbrev lw_cs : List Choice := [Jvm.Choice.named "NaN.bits", Jvm.Choice.named "NaN.copy"]
theorem lw_bits : nanBits ∈ lw_cs := by first | decide | exact List.mem_cons_self | simp [lw_cs, nanBits]

/-! ===== BEGIN words of one list among another's, by their places ===== -/
theorem goodIn_r {big : List Cond} (ws : List Cond) (ps : List Nat) (hp : ws = ps.filterMap (fun i => big[i]?)) (h : ws.all goodWord = true) : GoodIn big ws := by
  intro w hw
  have h1 := List.all_eq_true.mp h w hw
  rw [hp] at hw
  obtain ⟨i, -, hi⟩ := List.mem_filterMap.mp hw
  have hm : w ∈ big := by first | exact List.mem_of_getElem? hi | exact List.getElem?_mem hi
  exact ⟨hm, good_of_word h1⟩
theorem goodIn_app {big a b : List Cond} (ha : GoodIn big a) (hb : GoodIn big b) : GoodIn big (a ++ b) := fun w h => (List.mem_append.mp h).elim (ha w) (hb w)
theorem goodIn_ca {big a b : List Cond} {c : Cond} (ha : GoodIn big (c :: a)) (hb : GoodIn big b) : GoodIn big (c :: (a ++ b)) := fun w h => (List.mem_cons.mp h).elim (fun e => ha w (List.mem_cons.mpr (Or.inl e))) (fun h => (List.mem_append.mp h).elim (fun h => ha w (List.mem_cons.mpr (Or.inr h))) (hb w))
theorem goodIn_sub {big ws : List Cond} (hm : ∀ w ∈ ws, w ∈ big) (h : ws.all goodWord = true) : GoodIn big ws := fun w hw => ⟨hm w hw, good_of_word (List.all_eq_true.mp h w hw)⟩
/-! ===== END ===== -/

/-! ===== BEGIN printed: names, fields, word lists, decode rows ===== -/
def RX0 : String := "MemberScanner$Column"
def TX0 : u_T := fun k => match k with
  | 0 => ("MemberScanner$Column", "cells", "[J", true)
  | 1 => ("MemberScanner$Column", "count", "I", false)
  | 2 => ("MemberScanner$Column", "lane", "I", false)
  | _ => ("MemberScanner$Column", "begun", "Z", false)
def tyX0 : Nat → FieldType := fun k => match k with
  | 0 => .array .long
  | 1 => .int
  | 2 => .int
  | _ => .boolean
abbrev wsX00 : List Cond := u_ws RX0 TX0 4
theorem nmX0 : ∀ a, a < 4 → ∀ b, b < 4 → a ≠ b → (TX0 a).2.1 ≠ (TX0 b).2.1 := by decide +kernel
theorem tyX0_ok : ∀ k, k < 4 → parseFieldDescriptor (TX0 k).2.2.1 = some (tyX0 k) := by decide +kernel
abbrev cX0_init : ByteArray := prog_2_method_1_code
def yX0_init : MethodName := ⟨RX0, "<init>", "()V"⟩
abbrev cX0_begin : ByteArray := prog_2_method_2_code
def yX0_begin : MethodName := ⟨RX0, "begin", "(I)V"⟩
abbrev cX0_take : ByteArray := prog_2_method_3_code
def yX0_take : MethodName := ⟨RX0, "take", "(LMemberScanner$Slot;)Z"⟩
abbrev cX0_folded : ByteArray := prog_2_method_4_code
def yX0_folded : MethodName := ⟨RX0, "folded", "(I)J"⟩
abbrev cX0_joined : ByteArray := prog_2_method_5_code
def yX0_joined : MethodName := ⟨RX0, "joined", "(IJJ)J"⟩
def RX1 : String := "MemberScanner$Entry"
def TX1 : u_T := fun k => match k with
  | 0 => ("MemberScanner$Entry", "name", "I", true)
  | 1 => ("MemberScanner$Entry", "owner", "I", false)
  | 2 => ("MemberScanner$Entry", "sort", "I", false)
  | 3 => ("MemberScanner$Entry", "lane", "I", false)
  | 4 => ("MemberScanner$Entry", "depth", "I", false)
  | 5 => ("MemberScanner$Entry", "marks", "I", false)
  | 6 => ("MemberScanner$Entry", "ownCount", "I", false)
  | _ => ("MemberScanner$Entry", "unlike", "I", false)
def tyX1 : Nat → FieldType := fun k => match k with
  | 0 => .int
  | 1 => .int
  | 2 => .int
  | 3 => .int
  | 4 => .int
  | 5 => .int
  | 6 => .int
  | _ => .int
abbrev wsX10 : List Cond := u_ws RX1 TX1 8
theorem nmX1 : ∀ a, a < 8 → ∀ b, b < 8 → a ≠ b → (TX1 a).2.1 ≠ (TX1 b).2.1 := by decide +kernel
theorem tyX1_ok : ∀ k, k < 8 → parseFieldDescriptor (TX1 k).2.2.1 = some (tyX1 k) := by decide +kernel
abbrev cX1_init : ByteArray := prog_3_method_1_code
def yX1_init : MethodName := ⟨RX1, "<init>", "(I)V"⟩
abbrev cX1_forget : ByteArray := prog_3_method_2_code
def yX1_forget : MethodName := ⟨RX1, "forget", "()V"⟩
abbrev cX1_take : ByteArray := prog_3_method_3_code
def yX1_take : MethodName := ⟨RX1, "take", "(ILMemberScanner$Member;)V"⟩
def RX2 : String := "MemberScanner$Member"
def TX2 : u_T := fun k => match k with
  | 0 => ("MemberScanner$Member", "sort", "I", true)
  | 1 => ("MemberScanner$Member", "name", "I", true)
  | 2 => ("MemberScanner$Member", "lane", "I", true)
  | 3 => ("MemberScanner$Member", "depth", "I", true)
  | _ => ("MemberScanner$Member", "marks", "I", true)
def tyX2 : Nat → FieldType := fun k => match k with
  | 0 => .int
  | 1 => .int
  | 2 => .int
  | 3 => .int
  | _ => .int
abbrev wsX20 : List Cond := u_ws RX2 TX2 5
theorem nmX2 : ∀ a, a < 5 → ∀ b, b < 5 → a ≠ b → (TX2 a).2.1 ≠ (TX2 b).2.1 := by decide +kernel
theorem tyX2_ok : ∀ k, k < 5 → parseFieldDescriptor (TX2 k).2.2.1 = some (tyX2 k) := by decide +kernel
abbrev cX2_init : ByteArray := prog_4_method_1_code
def yX2_init : MethodName := ⟨RX2, "<init>", "(IIIII)V"⟩
abbrev cX2_isMarked : ByteArray := prog_4_method_2_code
def yX2_isMarked : MethodName := ⟨RX2, "isMarked", "(I)Z"⟩
def RX3 : String := "MemberScanner$Numbers"
def TX3 : u_T := fun k => match k with
  | _ => ("", "", "", false)
def tyX3 : Nat → FieldType := fun k => match k with
  | _ => .int
abbrev wsX30 : List Cond := u_ws RX3 TX3 0
theorem nmX3 : ∀ a, a < 0 → ∀ b, b < 0 → a ≠ b → (TX3 a).2.1 ≠ (TX3 b).2.1 := by decide +kernel
theorem tyX3_ok : ∀ k, k < 0 → parseFieldDescriptor (TX3 k).2.2.1 = some (tyX3 k) := by decide +kernel
abbrev cX3_become : ByteArray := prog_5_method_2_code
def yX3_become : MethodName := ⟨RX3, "become", "(JI)J"⟩
abbrev cX3_widens : ByteArray := prog_5_method_3_code
def yX3_widens : MethodName := ⟨RX3, "widens", "(II)Z"⟩
abbrev cX3_widened : ByteArray := prog_5_method_4_code
def yX3_widened : MethodName := ⟨RX3, "widened", "(JII)J"⟩
abbrev cX3_isFinite : ByteArray := prog_5_method_5_code
def yX3_isFinite : MethodName := ⟨RX3, "isFinite", "(J)Z"⟩
abbrev cX3_isZero : ByteArray := prog_5_method_6_code
def yX3_isZero : MethodName := ⟨RX3, "isZero", "(J)Z"⟩
abbrev cX3_negated : ByteArray := prog_5_method_7_code
def yX3_negated : MethodName := ⟨RX3, "negated", "(J)J"⟩
abbrev cX3_isLess : ByteArray := prog_5_method_8_code
def yX3_isLess : MethodName := ⟨RX3, "isLess", "(JJ)Z"⟩
abbrev cX3_ofWhole : ByteArray := prog_5_method_9_code
def yX3_ofWhole : MethodName := ⟨RX3, "ofWhole", "(JZ)J"⟩
abbrev cX3_floorOf : ByteArray := prog_5_method_10_code
def yX3_floorOf : MethodName := ⟨RX3, "floorOf", "(J)J"⟩
abbrev cX3_nearestWhole : ByteArray := prog_5_method_11_code
def yX3_nearestWhole : MethodName := ⟨RX3, "nearestWhole", "(J)J"⟩
abbrev cX3_wholeOf : ByteArray := prog_5_method_12_code
def yX3_wholeOf : MethodName := ⟨RX3, "wholeOf", "(J)J"⟩
abbrev cX3_sum : ByteArray := prog_5_method_13_code
def yX3_sum : MethodName := ⟨RX3, "sum", "(JJ)J"⟩
abbrev cX3_product : ByteArray := prog_5_method_14_code
def yX3_product : MethodName := ⟨RX3, "product", "(JJ)J"⟩
abbrev cX3_isNotANumber : ByteArray := prog_5_method_15_code
def yX3_isNotANumber : MethodName := ⟨RX3, "isNotANumber", "(J)Z"⟩
abbrev cX3_inOrder : ByteArray := prog_5_method_16_code
def yX3_inOrder : MethodName := ⟨RX3, "inOrder", "(J)J"⟩
abbrev cX3_toFloat : ByteArray := prog_5_method_17_code
def yX3_toFloat : MethodName := ⟨RX3, "toFloat", "(J)J"⟩
abbrev cX3_digitsOf : ByteArray := prog_5_method_18_code
def yX3_digitsOf : MethodName := ⟨RX3, "digitsOf", "(J)J"⟩
abbrev cX3_powerOf : ByteArray := prog_5_method_19_code
def yX3_powerOf : MethodName := ⟨RX3, "powerOf", "(J)I"⟩
abbrev cX3_lengthOf : ByteArray := prog_5_method_20_code
def yX3_lengthOf : MethodName := ⟨RX3, "lengthOf", "(J)I"⟩
abbrev cX3_shiftedDown : ByteArray := prog_5_method_21_code
def yX3_shiftedDown : MethodName := ⟨RX3, "shiftedDown", "(JI)J"⟩
abbrev cX3_withoutDigits : ByteArray := prog_5_method_22_code
def yX3_withoutDigits : MethodName := ⟨RX3, "withoutDigits", "(JI)J"⟩
abbrev cX3_rounded : ByteArray := prog_5_method_23_code
def yX3_rounded : MethodName := ⟨RX3, "rounded", "(JJIZ)J"⟩
abbrev cX3_packed : ByteArray := prog_5_method_24_code
def yX3_packed : MethodName := ⟨RX3, "packed", "(JJII)J"⟩
def RX4 : String := "MemberScanner$Roster"
def TX4 : u_T := fun k => match k with
  | 0 => ("MemberScanner$Roster", "takes", "I", true)
  | _ => ("MemberScanner$Roster", "places", "[I", true)
def tyX4 : Nat → FieldType := fun k => match k with
  | 0 => .int
  | _ => .array .int
abbrev wsX40 : List Cond := u_ws RX4 TX4 2
theorem nmX4 : ∀ a, a < 2 → ∀ b, b < 2 → a ≠ b → (TX4 a).2.1 ≠ (TX4 b).2.1 := by decide +kernel
theorem tyX4_ok : ∀ k, k < 2 → parseFieldDescriptor (TX4 k).2.2.1 = some (tyX4 k) := by decide +kernel
abbrev cX4_init : ByteArray := prog_6_method_1_code
def yX4_init : MethodName := ⟨RX4, "<init>", "(II)V"⟩
abbrev cX4_has : ByteArray := prog_6_method_2_code
def yX4_has : MethodName := ⟨RX4, "has", "(I)Z"⟩
abbrev cX4_takesType : ByteArray := prog_6_method_3_code
def yX4_takesType : MethodName := ⟨RX4, "takesType", "(LMemberScanner$Type;)Z"⟩
def RX5 : String := "MemberScanner$Row"
def TX5 : u_T := fun k => match k with
  | _ => ("MemberScanner$Row", "cells", "[J", true)
def tyX5 : Nat → FieldType := fun k => match k with
  | _ => .array .long
abbrev wsX50 : List Cond := u_ws RX5 TX5 1
theorem nmX5 : ∀ a, a < 1 → ∀ b, b < 1 → a ≠ b → (TX5 a).2.1 ≠ (TX5 b).2.1 := by decide +kernel
theorem tyX5_ok : ∀ k, k < 1 → parseFieldDescriptor (TX5 k).2.2.1 = some (tyX5 k) := by decide +kernel
abbrev cX5_init : ByteArray := prog_7_method_1_code
def yX5_init : MethodName := ⟨RX5, "<init>", "(II)V"⟩
abbrev cX5_init_ : ByteArray := prog_7_method_2_code
def yX5_init_ : MethodName := ⟨RX5, "<init>", "(LMemberScanner$Row;)V"⟩
abbrev cX5_has : ByteArray := prog_7_method_3_code
def yX5_has : MethodName := ⟨RX5, "has", "(I)Z"⟩
abbrev cX5_hasRange : ByteArray := prog_7_method_4_code
def yX5_hasRange : MethodName := ⟨RX5, "hasRange", "(II)Z"⟩
abbrev cX5_isLike : ByteArray := prog_7_method_5_code
def yX5_isLike : MethodName := ⟨RX5, "isLike", "(LMemberScanner$Row;)Z"⟩
abbrev cX5_curveAt : ByteArray := prog_7_method_6_code
def yX5_curveAt : MethodName := ⟨RX5, "curveAt", "(J)J"⟩
def RX6 : String := "MemberScanner$Slot"
def TX6 : u_T := fun k => match k with
  | 0 => ("MemberScanner$Slot", "name", "I", true)
  | 1 => ("MemberScanner$Slot", "lane", "I", true)
  | 2 => ("MemberScanner$Slot", "depth", "I", true)
  | 3 => ("MemberScanner$Slot", "marks", "I", true)
  | 4 => ("MemberScanner$Slot", "row", "LMemberScanner$Row;", false)
  | _ => ("MemberScanner$Slot", "places", "[LMemberScanner$Row;", false)
def tyX6 : Nat → FieldType := fun k => match k with
  | 0 => .int
  | 1 => .int
  | 2 => .int
  | 3 => .int
  | 4 => .object "MemberScanner$Row"
  | _ => .array (.object "MemberScanner$Row")
abbrev wsX60 : List Cond := u_ws RX6 TX6 6
theorem nmX6 : ∀ a, a < 6 → ∀ b, b < 6 → a ≠ b → (TX6 a).2.1 ≠ (TX6 b).2.1 := by decide +kernel
theorem tyX6_ok : ∀ k, k < 6 → parseFieldDescriptor (TX6 k).2.2.1 = some (tyX6 k) := by decide +kernel
abbrev cX6_init : ByteArray := prog_8_method_1_code
def yX6_init : MethodName := ⟨RX6, "<init>", "(LMemberScanner$Entry;)V"⟩
abbrev cX6_init_ : ByteArray := prog_8_method_2_code
def yX6_init_ : MethodName := ⟨RX6, "<init>", "(LMemberScanner$Slot;)V"⟩
abbrev cX6_hasNothing : ByteArray := prog_8_method_3_code
def yX6_hasNothing : MethodName := ⟨RX6, "hasNothing", "()Z"⟩
abbrev cX6_empty : ByteArray := prog_8_method_4_code
def yX6_empty : MethodName := ⟨RX6, "empty", "()V"⟩
abbrev cX6_fillAnew : ByteArray := prog_8_method_5_code
def yX6_fillAnew : MethodName := ⟨RX6, "fillAnew", "(I)V"⟩
abbrev cX6_length : ByteArray := prog_8_method_6_code
def yX6_length : MethodName := ⟨RX6, "length", "()I"⟩
abbrev cX6_rowAt : ByteArray := prog_8_method_7_code
def yX6_rowAt : MethodName := ⟨RX6, "rowAt", "(I)LMemberScanner$Row;"⟩
abbrev cX6_faultAt : ByteArray := prog_8_method_8_code
def yX6_faultAt : MethodName := ⟨RX6, "faultAt", "(II)I"⟩
abbrev cX6_cellAt : ByteArray := prog_8_method_9_code
def yX6_cellAt : MethodName := ⟨RX6, "cellAt", "(II)J"⟩
abbrev cX6_putCell : ByteArray := prog_8_method_10_code
def yX6_putCell : MethodName := ⟨RX6, "putCell", "(IIJ)V"⟩
abbrev cX6_isLike : ByteArray := prog_8_method_11_code
def yX6_isLike : MethodName := ⟨RX6, "isLike", "(LMemberScanner$Slot;)Z"⟩
abbrev cX6_areLike : ByteArray := prog_8_method_12_code
def yX6_areLike : MethodName := ⟨RX6, "areLike", "(LMemberScanner$Row;LMemberScanner$Row;)Z"⟩
def RX7 : String := "MemberScanner$Table"
def TX7 : u_T := fun k => match k with
  | 0 => ("MemberScanner$Table", "byName", "[LMemberScanner$Entry;", true)
  | 1 => ("MemberScanner$Table", "entries", "[LMemberScanner$Entry;", true)
  | 2 => ("MemberScanner$Table", "count", "I", false)
  | 3 => ("MemberScanner$Table", "rule", "I", false)
  | 4 => ("MemberScanner$Table", "ruleName", "I", false)
  | 5 => ("MemberScanner$Table", "ruleClass", "I", false)
  | _ => ("MemberScanner$Table", "ruleOther", "I", false)
def tyX7 : Nat → FieldType := fun k => match k with
  | 0 => .array (.object "MemberScanner$Entry")
  | 1 => .array (.object "MemberScanner$Entry")
  | 2 => .int
  | 3 => .int
  | 4 => .int
  | 5 => .int
  | _ => .int
abbrev wsX70 : List Cond := u_ws RX7 TX7 7
theorem nmX7 : ∀ a, a < 7 → ∀ b, b < 7 → a ≠ b → (TX7 a).2.1 ≠ (TX7 b).2.1 := by decide +kernel
theorem tyX7_ok : ∀ k, k < 7 → parseFieldDescriptor (TX7 k).2.2.1 = some (tyX7 k) := by decide +kernel
abbrev cX7_init : ByteArray := prog_9_method_1_code
def yX7_init : MethodName := ⟨RX7, "<init>", "()V"⟩
abbrev cX7_entryAt : ByteArray := prog_9_method_2_code
def yX7_entryAt : MethodName := ⟨RX7, "entryAt", "(I)LMemberScanner$Entry;"⟩
abbrev cX7_read : ByteArray := prog_9_method_3_code
def yX7_read : MethodName := ⟨RX7, "read", "(LMemberScanner$Types;I)V"⟩
abbrev cX7_forget : ByteArray := prog_9_method_4_code
def yX7_forget : MethodName := ⟨RX7, "forget", "()V"⟩
abbrev cX7_takeMembers : ByteArray := prog_9_method_5_code
def yX7_takeMembers : MethodName := ⟨RX7, "takeMembers", "(ILMemberScanner$Type;)V"⟩
abbrev cX7_takeMember : ByteArray := prog_9_method_6_code
def yX7_takeMember : MethodName := ⟨RX7, "takeMember", "(ILMemberScanner$Member;)V"⟩
abbrev cX7_gather : ByteArray := prog_9_method_7_code
def yX7_gather : MethodName := ⟨RX7, "gather", "()V"⟩
abbrev cX7_lookForClash : ByteArray := prog_9_method_8_code
def yX7_lookForClash : MethodName := ⟨RX7, "lookForClash", "()V"⟩
abbrev cX7_lookForSecondKey : ByteArray := prog_9_method_9_code
def yX7_lookForSecondKey : MethodName := ⟨RX7, "lookForSecondKey", "()V"⟩
abbrev cX7_tell : ByteArray := prog_9_method_10_code
def yX7_tell : MethodName := ⟨RX7, "tell", "(IIII)V"⟩
def RX8 : String := "MemberScanner$Thing"
def TX8 : u_T := fun k => match k with
  | 0 => ("MemberScanner$Thing", "type", "I", true)
  | _ => ("MemberScanner$Thing", "slots", "[LMemberScanner$Slot;", true)
def tyX8 : Nat → FieldType := fun k => match k with
  | 0 => .int
  | _ => .array (.object "MemberScanner$Slot")
abbrev wsX80 : List Cond := u_ws RX8 TX8 2
theorem nmX8 : ∀ a, a < 2 → ∀ b, b < 2 → a ≠ b → (TX8 a).2.1 ≠ (TX8 b).2.1 := by decide +kernel
theorem tyX8_ok : ∀ k, k < 2 → parseFieldDescriptor (TX8 k).2.2.1 = some (tyX8 k) := by decide +kernel
abbrev cX8_init : ByteArray := prog_10_method_1_code
def yX8_init : MethodName := ⟨RX8, "<init>", "(ILMemberScanner$Table;)V"⟩
abbrev cX8_init_ : ByteArray := prog_10_method_2_code
def yX8_init_ : MethodName := ⟨RX8, "<init>", "(LMemberScanner$Thing;)V"⟩
abbrev cX8_slotAt : ByteArray := prog_10_method_3_code
def yX8_slotAt : MethodName := ⟨RX8, "slotAt", "(I)LMemberScanner$Slot;"⟩
abbrev cX8_slotNumber : ByteArray := prog_10_method_4_code
def yX8_slotNumber : MethodName := ⟨RX8, "slotNumber", "(I)I"⟩
abbrev cX8_slotNamed : ByteArray := prog_10_method_5_code
def yX8_slotNamed : MethodName := ⟨RX8, "slotNamed", "(I)LMemberScanner$Slot;"⟩
abbrev cX8_hasKey : ByteArray := prog_10_method_6_code
def yX8_hasKey : MethodName := ⟨RX8, "hasKey", "(J)Z"⟩
abbrev cX8_isLike : ByteArray := prog_10_method_7_code
def yX8_isLike : MethodName := ⟨RX8, "isLike", "(LMemberScanner$Thing;)Z"⟩
def RX9 : String := "MemberScanner$Type"
def TX9 : u_T := fun k => match k with
  | 0 => ("MemberScanner$Type", "form", "I", true)
  | 1 => ("MemberScanner$Type", "parent", "I", true)
  | 2 => ("MemberScanner$Type", "level", "I", true)
  | 3 => ("MemberScanner$Type", "guises", "[I", true)
  | 4 => ("MemberScanner$Type", "guiseCount", "I", false)
  | 5 => ("MemberScanner$Type", "bounds", "[I", true)
  | 6 => ("MemberScanner$Type", "boundCount", "I", false)
  | 7 => ("MemberScanner$Type", "members", "[LMemberScanner$Member;", true)
  | 8 => ("MemberScanner$Type", "memberCount", "I", false)
  | 9 => ("MemberScanner$Type", "tallies", "[I", true)
  | _ => ("MemberScanner$Type", "started", "Z", false)
def tyX9 : Nat → FieldType := fun k => match k with
  | 0 => .int
  | 1 => .int
  | 2 => .int
  | 3 => .array .int
  | 4 => .int
  | 5 => .array .int
  | 6 => .int
  | 7 => .array (.object "MemberScanner$Member")
  | 8 => .int
  | 9 => .array .int
  | _ => .boolean
abbrev wsX90 : List Cond := u_ws RX9 TX9 11
theorem nmX9 : ∀ a, a < 11 → ∀ b, b < 11 → a ≠ b → (TX9 a).2.1 ≠ (TX9 b).2.1 := by decide +kernel
theorem tyX9_ok : ∀ k, k < 11 → parseFieldDescriptor (TX9 k).2.2.1 = some (tyX9 k) := by decide +kernel
abbrev cX9_init : ByteArray := prog_11_method_1_code
def yX9_init : MethodName := ⟨RX9, "<init>", "(III)V"⟩
abbrev cX9_isPlainOrRecord : ByteArray := prog_11_method_2_code
def yX9_isPlainOrRecord : MethodName := ⟨RX9, "isPlainOrRecord", "()Z"⟩
abbrev cX9_cost : ByteArray := prog_11_method_3_code
def yX9_cost : MethodName := ⟨RX9, "cost", "()I"⟩
abbrev cX9_hasGuise : ByteArray := prog_11_method_4_code
def yX9_hasGuise : MethodName := ⟨RX9, "hasGuise", "(I)Z"⟩
abbrev cX9_hasMember : ByteArray := prog_11_method_5_code
def yX9_hasMember : MethodName := ⟨RX9, "hasMember", "(II)Z"⟩
abbrev cX9_mayHave : ByteArray := prog_11_method_6_code
def yX9_mayHave : MethodName := ⟨RX9, "mayHave", "(II)Z"⟩
abbrev cX9_laneMeant : ByteArray := prog_11_method_7_code
def yX9_laneMeant : MethodName := ⟨RX9, "laneMeant", "(I)I"⟩
def RX10 : String := "MemberScanner$Types"
def TX10 : u_T := fun k => match k with
  | 0 => ("MemberScanner$Types", "all", "[LMemberScanner$Type;", true)
  | 1 => ("MemberScanner$Types", "count", "I", false)
  | 2 => ("MemberScanner$Types", "way", "[I", true)
  | 3 => ("MemberScanner$Types", "wayLength", "I", false)
  | _ => ("MemberScanner$Types", "met", "[Z", true)
def tyX10 : Nat → FieldType := fun k => match k with
  | 0 => .array (.object "MemberScanner$Type")
  | 1 => .int
  | 2 => .array .int
  | 3 => .int
  | _ => .array .boolean
abbrev wsX100 : List Cond := u_ws RX10 TX10 5
theorem nmX10 : ∀ a, a < 5 → ∀ b, b < 5 → a ≠ b → (TX10 a).2.1 ≠ (TX10 b).2.1 := by decide +kernel
theorem tyX10_ok : ∀ k, k < 5 → parseFieldDescriptor (TX10 k).2.2.1 = some (tyX10 k) := by decide +kernel
abbrev cX10_init : ByteArray := prog_12_method_1_code
def yX10_init : MethodName := ⟨RX10, "<init>", "()V"⟩
abbrev cX10_add : ByteArray := prog_12_method_2_code
def yX10_add : MethodName := ⟨RX10, "add", "(LMemberScanner$Type;)I"⟩
abbrev cX10_typeOf : ByteArray := prog_12_method_3_code
def yX10_typeOf : MethodName := ⟨RX10, "typeOf", "(I)LMemberScanner$Type;"⟩
abbrev cX10_wayLengthOf : ByteArray := prog_12_method_4_code
def yX10_wayLengthOf : MethodName := ⟨RX10, "wayLengthOf", "(I)I"⟩
abbrev cX10_isBelow : ByteArray := prog_12_method_5_code
def yX10_isBelow : MethodName := ⟨RX10, "isBelow", "(II)Z"⟩
abbrev cX10_start : ByteArray := prog_12_method_6_code
def yX10_start : MethodName := ⟨RX10, "start", "(I)V"⟩
abbrev cX10_startedCount : ByteArray := prog_12_method_7_code
def yX10_startedCount : MethodName := ⟨RX10, "startedCount", "()I"⟩
abbrev cX10_meet : ByteArray := prog_12_method_8_code
def yX10_meet : MethodName := ⟨RX10, "meet", "(I)Z"⟩
abbrev cX10_meetGuises : ByteArray := prog_12_method_9_code
def yX10_meetGuises : MethodName := ⟨RX10, "meetGuises", "(II)V"⟩
def RX11 : String := "MemberScanner"
def TX11 : u_T := fun k => match k with
  | 0 => ("MemberScanner", "types", "LMemberScanner$Types;", true)
  | 1 => ("MemberScanner", "scanned", "LMemberScanner$Table;", true)
  | 2 => ("MemberScanner", "draft", "LMemberScanner$Table;", true)
  | 3 => ("MemberScanner", "things", "[LMemberScanner$Thing;", true)
  | 4 => ("MemberScanner", "thingCount", "I", false)
  | 5 => ("MemberScanner", "latestColumn", "LMemberScanner$Column;", false)
  | 6 => ("MemberScanner", "nextColumn", "LMemberScanner$Column;", false)
  | 7 => ("MemberScanner", "rosters", "[LMemberScanner$Roster;", true)
  | 8 => ("MemberScanner", "latestFault", "I", false)
  | _ => ("MemberScanner", "faultsEver", "I", false)
def tyX11 : Nat → FieldType := fun k => match k with
  | 0 => .object "MemberScanner$Types"
  | 1 => .object "MemberScanner$Table"
  | 2 => .object "MemberScanner$Table"
  | 3 => .array (.object "MemberScanner$Thing")
  | 4 => .int
  | 5 => .object "MemberScanner$Column"
  | 6 => .object "MemberScanner$Column"
  | 7 => .array (.object "MemberScanner$Roster")
  | 8 => .int
  | _ => .int
abbrev wsX110 : List Cond := u_ws RX11 TX11 10
theorem nmX11 : ∀ a, a < 10 → ∀ b, b < 10 → a ≠ b → (TX11 a).2.1 ≠ (TX11 b).2.1 := by decide +kernel
theorem tyX11_ok : ∀ k, k < 10 → parseFieldDescriptor (TX11 k).2.2.1 = some (tyX11 k) := by decide +kernel
abbrev cX11_init : ByteArray := prog_1_method_1_code
def yX11_init : MethodName := ⟨RX11, "<init>", "()V"⟩
abbrev cX11_cls : ByteArray := prog_1_method_2_code
def yX11_cls : MethodName := ⟨RX11, "cls", "(II)I"⟩
abbrev cX11_face : ByteArray := prog_1_method_3_code
def yX11_face : MethodName := ⟨RX11, "face", "(II)I"⟩
abbrev cX11_variable : ByteArray := prog_1_method_4_code
def yX11_variable : MethodName := ⟨RX11, "variable", "(II)I"⟩
abbrev cX11_member : ByteArray := prog_1_method_5_code
def yX11_member : MethodName := ⟨RX11, "member", "(IIIIII)I"⟩
abbrev cX11_says : ByteArray := prog_1_method_6_code
def yX11_says : MethodName := ⟨RX11, "says", "(II)I"⟩
abbrev cX11_way : ByteArray := prog_1_method_7_code
def yX11_way : MethodName := ⟨RX11, "way", "(II)I"⟩
abbrev cX11_below : ByteArray := prog_1_method_8_code
def yX11_below : MethodName := ⟨RX11, "below", "(II)I"⟩
abbrev cX11_scan : ByteArray := prog_1_method_9_code
def yX11_scan : MethodName := ⟨RX11, "scan", "(I)I"⟩
abbrev cX11_broken : ByteArray := prog_1_method_10_code
def yX11_broken : MethodName := ⟨RX11, "broken", "(I)I"⟩
abbrev cX11_entry : ByteArray := prog_1_method_11_code
def yX11_entry : MethodName := ⟨RX11, "entry", "(II)I"⟩
abbrev cX11_tally : ByteArray := prog_1_method_12_code
def yX11_tally : MethodName := ⟨RX11, "tally", "(III)I"⟩
abbrev cX11_offer : ByteArray := prog_1_method_13_code
def yX11_offer : MethodName := ⟨RX11, "offer", "(I)I"⟩
abbrev cX11_hold : ByteArray := prog_1_method_14_code
def yX11_hold : MethodName := ⟨RX11, "hold", "(III)I"⟩
abbrev cX11_make : ByteArray := prog_1_method_15_code
def yX11_make : MethodName := ⟨RX11, "make", "(I)I"⟩
abbrev cX11_of : ByteArray := prog_1_method_16_code
def yX11_of : MethodName := ⟨RX11, "of", "(II)I"⟩
abbrev cX11_slot : ByteArray := prog_1_method_17_code
def yX11_slot : MethodName := ⟨RX11, "slot", "(II)I"⟩
abbrev cX11_kind : ByteArray := prog_1_method_18_code
def yX11_kind : MethodName := ⟨RX11, "kind", "(III)I"⟩
abbrev cX11_row : ByteArray := prog_1_method_19_code
def yX11_row : MethodName := ⟨RX11, "row", "(III)I"⟩
abbrev cX11_inner : ByteArray := prog_1_method_20_code
def yX11_inner : MethodName := ⟨RX11, "inner", "(IIII)I"⟩
abbrev cX11_drop : ByteArray := prog_1_method_21_code
def yX11_drop : MethodName := ⟨RX11, "drop", "(II)I"⟩
abbrev cX11_size : ByteArray := prog_1_method_22_code
def yX11_size : MethodName := ⟨RX11, "size", "(III)I"⟩
abbrev cX11_get : ByteArray := prog_1_method_23_code
def yX11_get : MethodName := ⟨RX11, "get", "(IIII)J"⟩
abbrev cX11_set : ByteArray := prog_1_method_24_code
def yX11_set : MethodName := ⟨RX11, "set", "(IIIIJ)I"⟩
abbrev cX11_link : ByteArray := prog_1_method_25_code
def yX11_link : MethodName := ⟨RX11, "link", "(IIIII)I"⟩
abbrev cX11_as : ByteArray := prog_1_method_26_code
def yX11_as : MethodName := ⟨RX11, "as", "(IIII)J"⟩
abbrev cX11_wide : ByteArray := prog_1_method_27_code
def yX11_wide : MethodName := ⟨RX11, "wide", "(IIII)J"⟩
abbrev cX11_copy : ByteArray := prog_1_method_28_code
def yX11_copy : MethodName := ⟨RX11, "copy", "(IIIIIII)I"⟩
abbrev cX11_follow : ByteArray := prog_1_method_29_code
def yX11_follow : MethodName := ⟨RX11, "follow", "(III)I"⟩
abbrev cX11_twin : ByteArray := prog_1_method_30_code
def yX11_twin : MethodName := ⟨RX11, "twin", "(I)I"⟩
abbrev cX11_alike : ByteArray := prog_1_method_31_code
def yX11_alike : MethodName := ⟨RX11, "alike", "(II)I"⟩
abbrev cX11_find : ByteArray := prog_1_method_32_code
def yX11_find : MethodName := ⟨RX11, "find", "(IJ)I"⟩
abbrev cX11_column : ByteArray := prog_1_method_33_code
def yX11_column : MethodName := ⟨RX11, "column", "(III)I"⟩
abbrev cX11_cell : ByteArray := prog_1_method_34_code
def yX11_cell : MethodName := ⟨RX11, "cell", "(I)J"⟩
abbrev cX11_fold : ByteArray := prog_1_method_35_code
def yX11_fold : MethodName := ⟨RX11, "fold", "(I)J"⟩
abbrev cX11_at : ByteArray := prog_1_method_36_code
def yX11_at : MethodName := ⟨RX11, "at", "(IIJ)J"⟩
abbrev cX11_list : ByteArray := prog_1_method_37_code
def yX11_list : MethodName := ⟨RX11, "list", "(III)I"⟩
abbrev cX11_stand : ByteArray := prog_1_method_38_code
def yX11_stand : MethodName := ⟨RX11, "stand", "(III)I"⟩
abbrev cX11_board : ByteArray := prog_1_method_39_code
def yX11_board : MethodName := ⟨RX11, "board", "(II)I"⟩
abbrev cX11_trial : ByteArray := prog_1_method_40_code
def yX11_trial : MethodName := ⟨RX11, "trial", "(II)I"⟩
abbrev cX11_fault : ByteArray := prog_1_method_41_code
def yX11_fault : MethodName := ⟨RX11, "fault", "()I"⟩
abbrev cX11_told : ByteArray := prog_1_method_42_code
def yX11_told : MethodName := ⟨RX11, "told", "(I)I"⟩
abbrev cX11_isName : ByteArray := prog_1_method_43_code
def yX11_isName : MethodName := ⟨RX11, "isName", "(I)Z"⟩
abbrev cX11_isNumberLane : ByteArray := prog_1_method_44_code
def yX11_isNumberLane : MethodName := ⟨RX11, "isNumberLane", "(I)Z"⟩
abbrev cX11_isList : ByteArray := prog_1_method_45_code
def yX11_isList : MethodName := ⟨RX11, "isList", "(I)Z"⟩
abbrev cX11_mayBeParent : ByteArray := prog_1_method_46_code
def yX11_mayBeParent : MethodName := ⟨RX11, "mayBeParent", "(ILMemberScanner$Type;)Z"⟩
abbrev cX11_comeTo : ByteArray := prog_1_method_47_code
def yX11_comeTo : MethodName := ⟨RX11, "comeTo", "(I)I"⟩
abbrev cX11_zeroAfter : ByteArray := prog_1_method_48_code
def yX11_zeroAfter : MethodName := ⟨RX11, "zeroAfter", "(I)J"⟩
abbrev cX11_addThing : ByteArray := prog_1_method_49_code
def yX11_addThing : MethodName := ⟨RX11, "addThing", "(LMemberScanner$Thing;)I"⟩
abbrev cX11_thingOf : ByteArray := prog_1_method_50_code
def yX11_thingOf : MethodName := ⟨RX11, "thingOf", "(I)LMemberScanner$Thing;"⟩
abbrev cX11_slotOf : ByteArray := prog_1_method_51_code
def yX11_slotOf : MethodName := ⟨RX11, "slotOf", "(II)LMemberScanner$Slot;"⟩
abbrev cX11_put : ByteArray := prog_1_method_52_code
def yX11_put : MethodName := ⟨RX11, "put", "(LMemberScanner$Slot;IIJ)I"⟩
abbrev cX11_faultOfRow : ByteArray := prog_1_method_53_code
def yX11_faultOfRow : MethodName := ⟨RX11, "faultOfRow", "(LMemberScanner$Slot;I)I"⟩
abbrev cX11_faultOfStep : ByteArray := prog_1_method_54_code
def yX11_faultOfStep : MethodName := ⟨RX11, "faultOfStep", "(LMemberScanner$Thing;I)I"⟩
abbrev cX11_nextFrom : ByteArray := prog_1_method_55_code
def yX11_nextFrom : MethodName := ⟨RX11, "nextFrom", "(LMemberScanner$Thing;I)I"⟩
abbrev cX11_columnSlot : ByteArray := prog_1_method_56_code
def yX11_columnSlot : MethodName := ⟨RX11, "columnSlot", "(LMemberScanner$Thing;II)LMemberScanner$Slot;"⟩
def RX12 : String := "MemberScannerModel"
def TX12 : u_T := fun k => match k with
  | 0 => ("MemberScannerModel", "fault", "I", false)
  | 1 => ("MemberScannerModel", "faults", "I", false)
  | 2 => ("MemberScannerModel", "classes", "I", false)
  | 3 => ("MemberScannerModel", "form", "[I", true)
  | 4 => ("MemberScannerModel", "parent", "[I", true)
  | 5 => ("MemberScannerModel", "faceMany", "[I", true)
  | 6 => ("MemberScannerModel", "faces", "[I", true)
  | 7 => ("MemberScannerModel", "variableMany", "[I", true)
  | 8 => ("MemberScannerModel", "bounds", "[I", true)
  | 9 => ("MemberScannerModel", "memberMany", "[I", true)
  | 10 => ("MemberScannerModel", "isMember", "[Z", true)
  | 11 => ("MemberScannerModel", "memberLane", "[I", true)
  | 12 => ("MemberScannerModel", "memberDepth", "[I", true)
  | 13 => ("MemberScannerModel", "memberMarks", "[I", true)
  | 14 => ("MemberScannerModel", "hasStarted", "[Z", true)
  | 15 => ("MemberScannerModel", "tallies", "[I", true)
  | 16 => ("MemberScannerModel", "way", "[I", true)
  | 17 => ("MemberScannerModel", "wayMany", "I", false)
  | 18 => ("MemberScannerModel", "pile", "[I", true)
  | 19 => ("MemberScannerModel", "pileNext", "[I", true)
  | 20 => ("MemberScannerModel", "rule", "I", false)
  | 21 => ("MemberScannerModel", "ruleName", "I", false)
  | 22 => ("MemberScannerModel", "ruleClass", "I", false)
  | 23 => ("MemberScannerModel", "ruleOther", "I", false)
  | 24 => ("MemberScannerModel", "many", "I", false)
  | 25 => ("MemberScannerModel", "made", "[I", true)
  | 26 => ("MemberScannerModel", "toldRule", "I", false)
  | 27 => ("MemberScannerModel", "toldName", "I", false)
  | 28 => ("MemberScannerModel", "toldClass", "I", false)
  | 29 => ("MemberScannerModel", "toldOther", "I", false)
  | 30 => ("MemberScannerModel", "toldMany", "I", false)
  | 31 => ("MemberScannerModel", "toldEntries", "[I", true)
  | 32 => ("MemberScannerModel", "objects", "I", false)
  | 33 => ("MemberScannerModel", "classOf", "[I", true)
  | 34 => ("MemberScannerModel", "slotMany", "[I", true)
  | 35 => ("MemberScannerModel", "slotName", "[I", true)
  | 36 => ("MemberScannerModel", "slotLane", "[I", true)
  | 37 => ("MemberScannerModel", "slotDepth", "[I", true)
  | 38 => ("MemberScannerModel", "slotMarks", "[I", true)
  | 39 => ("MemberScannerModel", "hasRow", "[Z", true)
  | 40 => ("MemberScannerModel", "rowLong", "[I", true)
  | 41 => ("MemberScannerModel", "hasInner", "[Z", true)
  | 42 => ("MemberScannerModel", "innerLong", "[I", true)
  | 43 => ("MemberScannerModel", "cells", "[J", true)
  | 44 => ("MemberScannerModel", "isColumn", "Z", false)
  | 45 => ("MemberScannerModel", "columnLane", "I", false)
  | 46 => ("MemberScannerModel", "columnLong", "I", false)
  | 47 => ("MemberScannerModel", "column", "[J", true)
  | 48 => ("MemberScannerModel", "draft", "[J", true)
  | 49 => ("MemberScannerModel", "listLong", "[I", true)
  | 50 => ("MemberScannerModel", "listTakes", "[I", true)
  | _ => ("MemberScannerModel", "listed", "[I", true)
def tyX12 : Nat → FieldType := fun k => match k with
  | 0 => .int
  | 1 => .int
  | 2 => .int
  | 3 => .array .int
  | 4 => .array .int
  | 5 => .array .int
  | 6 => .array .int
  | 7 => .array .int
  | 8 => .array .int
  | 9 => .array .int
  | 10 => .array .boolean
  | 11 => .array .int
  | 12 => .array .int
  | 13 => .array .int
  | 14 => .array .boolean
  | 15 => .array .int
  | 16 => .array .int
  | 17 => .int
  | 18 => .array .int
  | 19 => .array .int
  | 20 => .int
  | 21 => .int
  | 22 => .int
  | 23 => .int
  | 24 => .int
  | 25 => .array .int
  | 26 => .int
  | 27 => .int
  | 28 => .int
  | 29 => .int
  | 30 => .int
  | 31 => .array .int
  | 32 => .int
  | 33 => .array .int
  | 34 => .array .int
  | 35 => .array .int
  | 36 => .array .int
  | 37 => .array .int
  | 38 => .array .int
  | 39 => .array .boolean
  | 40 => .array .int
  | 41 => .array .boolean
  | 42 => .array .int
  | 43 => .array .long
  | 44 => .boolean
  | 45 => .int
  | 46 => .int
  | 47 => .array .long
  | 48 => .array .long
  | 49 => .array .int
  | 50 => .array .int
  | _ => .array .int
abbrev wsX120 : List Cond := u_ws RX12 TX12 52
theorem nmX12 : ∀ a, a < 52 → ∀ b, b < 52 → a ≠ b → (TX12 a).2.1 ≠ (TX12 b).2.1 := by decide +kernel
theorem tyX12_ok : ∀ k, k < 52 → parseFieldDescriptor (TX12 k).2.2.1 = some (tyX12 k) := by decide +kernel
abbrev cX12_init : ByteArray := prog_14_method_1_code
def yX12_init : MethodName := ⟨RX12, "<init>", "()V"⟩
abbrev cX12_fails : ByteArray := prog_14_method_3_code
def yX12_fails : MethodName := ⟨RX12, "fails", "(I)I"⟩
abbrev cX12_failsLong : ByteArray := prog_14_method_4_code
def yX12_failsLong : MethodName := ⟨RX12, "failsLong", "(I)J"⟩
abbrev cX12_within : ByteArray := prog_14_method_5_code
def yX12_within : MethodName := ⟨RX12, "within", "(III)Z"⟩
abbrev cX12_isClass : ByteArray := prog_14_method_6_code
def yX12_isClass : MethodName := ⟨RX12, "isClass", "(I)Z"⟩
abbrev cX12_above : ByteArray := prog_14_method_7_code
def yX12_above : MethodName := ⟨RX12, "above", "(I)I"⟩
abbrev cX12_cls : ByteArray := prog_14_method_8_code
def yX12_cls : MethodName := ⟨RX12, "cls", "(II)I"⟩
abbrev cX12_isOnWay : ByteArray := prog_14_method_9_code
def yX12_isOnWay : MethodName := ⟨RX12, "isOnWay", "(I)Z"⟩
abbrev cX12_put : ByteArray := prog_14_method_10_code
def yX12_put : MethodName := ⟨RX12, "put", "(I)V"⟩
abbrev cX12_findWay : ByteArray := prog_14_method_11_code
def yX12_findWay : MethodName := ⟨RX12, "findWay", "(I)V"⟩
abbrev cX12_isBelow : ByteArray := prog_14_method_12_code
def yX12_isBelow : MethodName := ⟨RX12, "isBelow", "(II)Z"⟩
abbrev cX12_face : ByteArray := prog_14_method_13_code
def yX12_face : MethodName := ⟨RX12, "face", "(II)I"⟩
abbrev cX12_variable : ByteArray := prog_14_method_14_code
def yX12_variable : MethodName := ⟨RX12, "variable", "(II)I"⟩
abbrev cX12_member : ByteArray := prog_14_method_15_code
def yX12_member : MethodName := ⟨RX12, "member", "(IIIIII)I"⟩
abbrev cX12_cost : ByteArray := prog_14_method_16_code
def yX12_cost : MethodName := ⟨RX12, "cost", "(I)I"⟩
abbrev cX12_says : ByteArray := prog_14_method_17_code
def yX12_says : MethodName := ⟨RX12, "says", "(II)I"⟩
abbrev cX12_way : ByteArray := prog_14_method_18_code
def yX12_way : MethodName := ⟨RX12, "way", "(II)I"⟩
abbrev cX12_below : ByteArray := prog_14_method_19_code
def yX12_below : MethodName := ⟨RX12, "below", "(II)I"⟩
abbrev cX12_laneOf : ByteArray := prog_14_method_20_code
def yX12_laneOf : MethodName := ⟨RX12, "laneOf", "(II)I"⟩
abbrev cX12_breaks : ByteArray := prog_14_method_21_code
def yX12_breaks : MethodName := ⟨RX12, "breaks", "(IIII)V"⟩
abbrev cX12_hasStaticKey : ByteArray := prog_14_method_22_code
def yX12_hasStaticKey : MethodName := ⟨RX12, "hasStaticKey", "()Z"⟩
abbrev cX12_enter : ByteArray := prog_14_method_23_code
def yX12_enter : MethodName := ⟨RX12, "enter", "(I)Z"⟩
abbrev cX12_makeTable : ByteArray := prog_14_method_24_code
def yX12_makeTable : MethodName := ⟨RX12, "makeTable", "(I)V"⟩
abbrev cX12_scan : ByteArray := prog_14_method_25_code
def yX12_scan : MethodName := ⟨RX12, "scan", "(I)I"⟩
abbrev cX12_broken : ByteArray := prog_14_method_26_code
def yX12_broken : MethodName := ⟨RX12, "broken", "(I)I"⟩
abbrev cX12_entry : ByteArray := prog_14_method_27_code
def yX12_entry : MethodName := ⟨RX12, "entry", "(II)I"⟩
abbrev cX12_isConcrete : ByteArray := prog_14_method_28_code
def yX12_isConcrete : MethodName := ⟨RX12, "isConcrete", "(I)Z"⟩
abbrev cX12_tally : ByteArray := prog_14_method_29_code
def yX12_tally : MethodName := ⟨RX12, "tally", "(III)I"⟩
abbrev cX12_offer : ByteArray := prog_14_method_30_code
def yX12_offer : MethodName := ⟨RX12, "offer", "(I)I"⟩
abbrev cX12_hold : ByteArray := prog_14_method_31_code
def yX12_hold : MethodName := ⟨RX12, "hold", "(III)I"⟩
abbrev cX12_isObject : ByteArray := prog_14_method_32_code
def yX12_isObject : MethodName := ⟨RX12, "isObject", "(I)Z"⟩
abbrev cX12_isSlot : ByteArray := prog_14_method_33_code
def yX12_isSlot : MethodName := ⟨RX12, "isSlot", "(II)Z"⟩
abbrev cX12_clear : ByteArray := prog_14_method_34_code
def yX12_clear : MethodName := ⟨RX12, "clear", "(III)V"⟩
abbrev cX12_make : ByteArray := prog_14_method_35_code
def yX12_make : MethodName := ⟨RX12, "make", "(I)I"⟩
abbrev cX12_of : ByteArray := prog_14_method_36_code
def yX12_of : MethodName := ⟨RX12, "of", "(II)I"⟩
abbrev cX12_slotOf : ByteArray := prog_14_method_37_code
def yX12_slotOf : MethodName := ⟨RX12, "slotOf", "(II)I"⟩
abbrev cX12_slot : ByteArray := prog_14_method_38_code
def yX12_slot : MethodName := ⟨RX12, "slot", "(II)I"⟩
abbrev cX12_kind : ByteArray := prog_14_method_39_code
def yX12_kind : MethodName := ⟨RX12, "kind", "(III)I"⟩
abbrev cX12_row : ByteArray := prog_14_method_40_code
def yX12_row : MethodName := ⟨RX12, "row", "(III)I"⟩
abbrev cX12_inner : ByteArray := prog_14_method_41_code
def yX12_inner : MethodName := ⟨RX12, "inner", "(IIII)I"⟩
abbrev cX12_drop : ByteArray := prog_14_method_42_code
def yX12_drop : MethodName := ⟨RX12, "drop", "(II)I"⟩
abbrev cX12_size : ByteArray := prog_14_method_43_code
def yX12_size : MethodName := ⟨RX12, "size", "(III)I"⟩
abbrev cX12_placeOf : ByteArray := prog_14_method_44_code
def yX12_placeOf : MethodName := ⟨RX12, "placeOf", "(III)I"⟩
abbrev cX12_get : ByteArray := prog_14_method_45_code
def yX12_get : MethodName := ⟨RX12, "get", "(IIII)J"⟩
abbrev cX12_isNumber : ByteArray := prog_14_method_46_code
def yX12_isNumber : MethodName := ⟨RX12, "isNumber", "(J)Z"⟩
abbrev cX12_isFinite : ByteArray := prog_14_method_47_code
def yX12_isFinite : MethodName := ⟨RX12, "isFinite", "(J)Z"⟩
abbrev cX12_ofFloat : ByteArray := prog_14_method_48_code
def yX12_ofFloat : MethodName := ⟨RX12, "ofFloat", "(F)J"⟩
abbrev cX12_comes : ByteArray := prog_14_method_49_code
def yX12_comes : MethodName := ⟨RX12, "comes", "(IJ)J"⟩
abbrev cX12_set : ByteArray := prog_14_method_50_code
def yX12_set : MethodName := ⟨RX12, "set", "(IIIIJ)I"⟩
abbrev cX12_link : ByteArray := prog_14_method_51_code
def yX12_link : MethodName := ⟨RX12, "link", "(IIIII)I"⟩
abbrev cX12_as : ByteArray := prog_14_method_52_code
def yX12_as : MethodName := ⟨RX12, "as", "(IIII)J"⟩
abbrev cX12_isWidened : ByteArray := prog_14_method_53_code
def yX12_isWidened : MethodName := ⟨RX12, "isWidened", "(II)Z"⟩
abbrev cX12_widened : ByteArray := prog_14_method_54_code
def yX12_widened : MethodName := ⟨RX12, "widened", "(JII)J"⟩
abbrev cX12_wide : ByteArray := prog_14_method_55_code
def yX12_wide : MethodName := ⟨RX12, "wide", "(IIII)J"⟩
abbrev cX12_copy : ByteArray := prog_14_method_56_code
def yX12_copy : MethodName := ⟨RX12, "copy", "(IIIIIII)I"⟩
abbrev cX12_follow : ByteArray := prog_14_method_57_code
def yX12_follow : MethodName := ⟨RX12, "follow", "(III)I"⟩
abbrev cX12_twin : ByteArray := prog_14_method_58_code
def yX12_twin : MethodName := ⟨RX12, "twin", "(I)I"⟩
abbrev cX12_areCellsAlike : ByteArray := prog_14_method_59_code
def yX12_areCellsAlike : MethodName := ⟨RX12, "areCellsAlike", "(IIII)Z"⟩
abbrev cX12_areSlotsAlike : ByteArray := prog_14_method_60_code
def yX12_areSlotsAlike : MethodName := ⟨RX12, "areSlotsAlike", "(II)Z"⟩
abbrev cX12_alike : ByteArray := prog_14_method_61_code
def yX12_alike : MethodName := ⟨RX12, "alike", "(II)I"⟩
abbrev cX12_find : ByteArray := prog_14_method_62_code
def yX12_find : MethodName := ⟨RX12, "find", "(IJ)I"⟩
abbrev cX12_column : ByteArray := prog_14_method_63_code
def yX12_column : MethodName := ⟨RX12, "column", "(III)I"⟩
abbrev cX12_cell : ByteArray := prog_14_method_64_code
def yX12_cell : MethodName := ⟨RX12, "cell", "(I)J"⟩
abbrev cX12_nearest : ByteArray := prog_14_method_65_code
def yX12_nearest : MethodName := ⟨RX12, "nearest", "(D)D"⟩
abbrev cX12_below_ : ByteArray := prog_14_method_66_code
def yX12_below_ : MethodName := ⟨RX12, "below", "(D)D"⟩
abbrev cX12_fold : ByteArray := prog_14_method_67_code
def yX12_fold : MethodName := ⟨RX12, "fold", "(I)J"⟩
abbrev cX12_at : ByteArray := prog_14_method_68_code
def yX12_at : MethodName := ⟨RX12, "at", "(IIJ)J"⟩
abbrev cX12_list : ByteArray := prog_14_method_69_code
def yX12_list : MethodName := ⟨RX12, "list", "(III)I"⟩
abbrev cX12_takes : ByteArray := prog_14_method_70_code
def yX12_takes : MethodName := ⟨RX12, "takes", "(II)Z"⟩
abbrev cX12_stand : ByteArray := prog_14_method_71_code
def yX12_stand : MethodName := ⟨RX12, "stand", "(III)I"⟩
abbrev cX12_board : ByteArray := prog_14_method_72_code
def yX12_board : MethodName := ⟨RX12, "board", "(II)I"⟩
abbrev cX12_trial : ByteArray := prog_14_method_73_code
def yX12_trial : MethodName := ⟨RX12, "trial", "(II)I"⟩
abbrev cX12_fault : ByteArray := prog_14_method_74_code
def yX12_fault : MethodName := ⟨RX12, "fault", "()I"⟩
abbrev cX12_told : ByteArray := prog_14_method_75_code
def yX12_told : MethodName := ⟨RX12, "told", "(I)I"⟩
def RJx145de : String := "java/io/Serializable"
def TJx145de : u_T := fun k => match k with
  | _ => ("", "", "", false)
def tyJx145de : Nat → FieldType := fun k => match k with
  | _ => .int
abbrev wsJx145de0 : List Cond := u_ws RJx145de TJx145de 0
theorem nmJx145de : ∀ a, a < 0 → ∀ b, b < 0 → a ≠ b → (TJx145de a).2.1 ≠ (TJx145de b).2.1 := by decide +kernel
theorem tyJx145de_ok : ∀ k, k < 0 → parseFieldDescriptor (TJx145de k).2.2.1 = some (tyJx145de k) := by decide +kernel
def RJx8e188 : String := "java/lang/Cloneable"
def TJx8e188 : u_T := fun k => match k with
  | _ => ("", "", "", false)
def tyJx8e188 : Nat → FieldType := fun k => match k with
  | _ => .int
abbrev wsJx8e1880 : List Cond := u_ws RJx8e188 TJx8e188 0
theorem nmJx8e188 : ∀ a, a < 0 → ∀ b, b < 0 → a ≠ b → (TJx8e188 a).2.1 ≠ (TJx8e188 b).2.1 := by decide +kernel
theorem tyJx8e188_ok : ∀ k, k < 0 → parseFieldDescriptor (TJx8e188 k).2.2.1 = some (tyJx8e188 k) := by decide +kernel
def RJxb160c : String := "java/lang/Comparable"
def TJxb160c : u_T := fun k => match k with
  | _ => ("", "", "", false)
def tyJxb160c : Nat → FieldType := fun k => match k with
  | _ => .int
abbrev wsJxb160c0 : List Cond := u_ws RJxb160c TJxb160c 0
theorem nmJxb160c : ∀ a, a < 0 → ∀ b, b < 0 → a ≠ b → (TJxb160c a).2.1 ≠ (TJxb160c b).2.1 := by decide +kernel
theorem tyJxb160c_ok : ∀ k, k < 0 → parseFieldDescriptor (TJxb160c k).2.2.1 = some (tyJxb160c k) := by decide +kernel
def RJxe99ae : String := "java/lang/Double"
def TJxe99ae : u_T := fun k => match k with
  | _ => ("", "", "", false)
def tyJxe99ae : Nat → FieldType := fun k => match k with
  | _ => .int
abbrev wsJxe99ae0 : List Cond := u_ws RJxe99ae TJxe99ae 0
theorem nmJxe99ae : ∀ a, a < 0 → ∀ b, b < 0 → a ≠ b → (TJxe99ae a).2.1 ≠ (TJxe99ae b).2.1 := by decide +kernel
theorem tyJxe99ae_ok : ∀ k, k < 0 → parseFieldDescriptor (TJxe99ae k).2.2.1 = some (tyJxe99ae k) := by decide +kernel
abbrev cJxe99ae_isNaN_b9ae7 : ByteArray := prog_16_method_6_code
def yJxe99ae_isNaN_b9ae7 : MethodName := ⟨RJxe99ae, "isNaN", "(D)Z"⟩
abbrev cJxe99ae_doubleToLongBits_ccdee : ByteArray := prog_16_method_23_code
def yJxe99ae_doubleToLongBits_ccdee : MethodName := ⟨RJxe99ae, "doubleToLongBits", "(D)J"⟩
def RJ9 : String := "java/lang/Math"
def TJ9 : u_T := fun k => match k with
  | _ => ("", "", "", false)
def tyJ9 : Nat → FieldType := fun k => match k with
  | _ => .int
abbrev wsJ90 : List Cond := u_ws RJ9 TJ9 0
theorem nmJ9 : ∀ a, a < 0 → ∀ b, b < 0 → a ≠ b → (TJ9 a).2.1 ≠ (TJ9 b).2.1 := by decide +kernel
theorem tyJ9_ok : ∀ k, k < 0 → parseFieldDescriptor (TJ9 k).2.2.1 = some (tyJ9 k) := by decide +kernel
abbrev cJ9_floorMod_f86c9 : ByteArray := prog_17_method_52_code
def yJ9_floorMod_f86c9 : MethodName := ⟨RJ9, "floorMod", "(JJ)J"⟩
abbrev cJ9_max_7cf53 : ByteArray := prog_17_method_65_code
def yJ9_max_7cf53 : MethodName := ⟨RJ9, "max", "(II)I"⟩
def RJxd2413 : String := "java/lang/Number"
def TJxd2413 : u_T := fun k => match k with
  | _ => ("", "", "", false)
def tyJxd2413 : Nat → FieldType := fun k => match k with
  | _ => .int
abbrev wsJxd24130 : List Cond := u_ws RJxd2413 TJxd2413 0
theorem nmJxd2413 : ∀ a, a < 0 → ∀ b, b < 0 → a ≠ b → (TJxd2413 a).2.1 ≠ (TJxd2413 b).2.1 := by decide +kernel
theorem tyJxd2413_ok : ∀ k, k < 0 → parseFieldDescriptor (TJxd2413 k).2.2.1 = some (tyJxd2413 k) := by decide +kernel
def RJ10 : String := "java/lang/System"
def TJ10 : u_T := fun k => match k with
  | _ => ("", "", "", false)
def tyJ10 : Nat → FieldType := fun k => match k with
  | _ => .int
abbrev wsJ100 : List Cond := u_ws RJ10 TJ10 0
theorem nmJ10 : ∀ a, a < 0 → ∀ b, b < 0 → a ≠ b → (TJ10 a).2.1 ≠ (TJ10 b).2.1 := by decide +kernel
theorem tyJ10_ok : ∀ k, k < 0 → parseFieldDescriptor (TJ10 k).2.2.1 = some (tyJ10 k) := by decide +kernel
def RJxfd54e : String := "java/lang/constant/Constable"
def TJxfd54e : u_T := fun k => match k with
  | _ => ("", "", "", false)
def tyJxfd54e : Nat → FieldType := fun k => match k with
  | _ => .int
abbrev wsJxfd54e0 : List Cond := u_ws RJxfd54e TJxfd54e 0
theorem nmJxfd54e : ∀ a, a < 0 → ∀ b, b < 0 → a ≠ b → (TJxfd54e a).2.1 ≠ (TJxfd54e b).2.1 := by decide +kernel
theorem tyJxfd54e_ok : ∀ k, k < 0 → parseFieldDescriptor (TJxfd54e k).2.2.1 = some (tyJxfd54e k) := by decide +kernel
def RJx3cf43 : String := "java/lang/constant/ConstantDesc"
def TJx3cf43 : u_T := fun k => match k with
  | _ => ("", "", "", false)
def tyJx3cf43 : Nat → FieldType := fun k => match k with
  | _ => .int
abbrev wsJx3cf430 : List Cond := u_ws RJx3cf43 TJx3cf43 0
theorem nmJx3cf43 : ∀ a, a < 0 → ∀ b, b < 0 → a ≠ b → (TJx3cf43 a).2.1 ≠ (TJx3cf43 b).2.1 := by decide +kernel
theorem tyJx3cf43_ok : ∀ k, k < 0 → parseFieldDescriptor (TJx3cf43 k).2.2.1 = some (tyJx3cf43 k) := by decide +kernel
def RJ7 : String := "java/util/Arrays"
def TJ7 : u_T := fun k => match k with
  | _ => ("", "", "", false)
def tyJ7 : Nat → FieldType := fun k => match k with
  | _ => .int
abbrev wsJ70 : List Cond := u_ws RJ7 TJ7 0
theorem nmJ7 : ∀ a, a < 0 → ∀ b, b < 0 → a ≠ b → (TJ7 a).2.1 ≠ (TJ7 b).2.1 := by decide +kernel
theorem tyJ7_ok : ∀ k, k < 0 → parseFieldDescriptor (TJ7 k).2.2.1 = some (tyJ7 k) := by decide +kernel
abbrev cJ7_fill_d0a16 : ByteArray := prog_20_method_101_code
def yJ7_fill_d0a16 : MethodName := ⟨RJ7, "fill", "([JJ)V"⟩
abbrev cJ7_fill_53178 : ByteArray := prog_20_method_103_code
def yJ7_fill_53178 : MethodName := ⟨RJ7, "fill", "([II)V"⟩
def RL : String := "MemberScannerLaw"
abbrev cL_law : ByteArray := code
def yL_law : MethodName := ⟨RL, "law", "([I)Z"⟩
abbrev vwCl : List vw_C := [(RX0, TX0, 4), (RX1, TX1, 8), (RX2, TX2, 5), (RX4, TX4, 2), (RX5, TX5, 1), (RX6, TX6, 6), (RX7, TX7, 7), (RX8, TX8, 2), (RX9, TX9, 11), (RX10, TX10, 5), (RX11, TX11, 10), (RX12, TX12, 52)]

section
-- ===== PART A: goes FIRST, ahead of the names: the tables' words, and 'selects' of the private methods out of them =====
/-- a private method of a class that the tables say can be made, by its rows of tables_1 -/
def lw_okq (q : MethodName × Nat) : Prop := (q.1.cls ≠ "java/lang/invoke/MethodHandle" ∧ q.1.cls ≠ "java/lang/invoke/VarHandle") ∧ Cond.instantiable q.1.cls q.2 ∈ tables_1 ∧ Cond.privateMethod q.1 ∈ tables_1 ∧ Cond.instanceMethod q.1 ∈ tables_1
theorem lw_p0 : lw_okq (⟨"java/lang/Throwable", "fillInStackTrace", "(I)Ljava/lang/Throwable;"⟩, 6) := ⟨⟨by decide +kernel, by decide +kernel⟩, List.mem_of_getElem? (i := 374) (by decide +kernel), List.mem_of_getElem? (i := 372) (by decide +kernel), List.mem_of_getElem? (i := 373) (by decide +kernel)⟩
theorem lw_p1 : lw_okq (⟨"PlainSteps$Machine", "interruptBy", "(I)V"⟩, 11) := ⟨⟨by decide +kernel, by decide +kernel⟩, List.mem_of_getElem? (i := 254) (by decide +kernel), List.mem_of_getElem? (i := 567) (by decide +kernel), List.mem_of_getElem? (i := 568) (by decide +kernel)⟩
theorem lw_p2 : lw_okq (⟨"PlainSteps$Machine", "failWith", "(II)V"⟩, 11) := ⟨⟨by decide +kernel, by decide +kernel⟩, List.mem_of_getElem? (i := 254) (by decide +kernel), List.mem_of_getElem? (i := 600) (by decide +kernel), List.mem_of_getElem? (i := 601) (by decide +kernel)⟩
theorem lw_p3 : lw_okq (⟨"PlainSteps$Work", "prepare", "(II)V"⟩, 14) := ⟨⟨by decide +kernel, by decide +kernel⟩, List.mem_of_getElem? (i := 178) (by decide +kernel), List.mem_of_getElem? (i := 621) (by decide +kernel), List.mem_of_getElem? (i := 622) (by decide +kernel)⟩
theorem lw_p4 : lw_okq (⟨"PlainSteps$Work", "doTransfer", "(I)I"⟩, 14) := ⟨⟨by decide +kernel, by decide +kernel⟩, List.mem_of_getElem? (i := 178) (by decide +kernel), List.mem_of_getElem? (i := 633) (by decide +kernel), List.mem_of_getElem? (i := 634) (by decide +kernel)⟩
theorem lw_p5 : lw_okq (⟨"PlainSteps$Operands", "readField", "(II)J"⟩, 7) := ⟨⟨by decide +kernel, by decide +kernel⟩, List.mem_of_getElem? (i := 62) (by decide +kernel), List.mem_of_getElem? (i := 641) (by decide +kernel), List.mem_of_getElem? (i := 642) (by decide +kernel)⟩
theorem lw_p6 : lw_okq (⟨"PlainSteps$Work", "divide", "(IJJII)I"⟩, 14) := ⟨⟨by decide +kernel, by decide +kernel⟩, List.mem_of_getElem? (i := 178) (by decide +kernel), List.mem_of_getElem? (i := 657) (by decide +kernel), List.mem_of_getElem? (i := 658) (by decide +kernel)⟩
theorem lw_p7 : lw_okq (⟨"PlainSteps$Work", "write", "(IIJ)V"⟩, 14) := ⟨⟨by decide +kernel, by decide +kernel⟩, List.mem_of_getElem? (i := 178) (by decide +kernel), List.mem_of_getElem? (i := 668) (by decide +kernel), List.mem_of_getElem? (i := 669) (by decide +kernel)⟩
theorem lw_p8 : lw_okq (⟨"PlainSteps$Work", "load", "(ZJII)I"⟩, 14) := ⟨⟨by decide +kernel, by decide +kernel⟩, List.mem_of_getElem? (i := 178) (by decide +kernel), List.mem_of_getElem? (i := 695) (by decide +kernel), List.mem_of_getElem? (i := 696) (by decide +kernel)⟩
theorem lw_p9 : lw_okq (⟨"PlainSteps$Work", "store", "(ZJJ)I"⟩, 14) := ⟨⟨by decide +kernel, by decide +kernel⟩, List.mem_of_getElem? (i := 178) (by decide +kernel), List.mem_of_getElem? (i := 703) (by decide +kernel), List.mem_of_getElem? (i := 704) (by decide +kernel)⟩
theorem lw_p10 : lw_okq (⟨"PlainSteps$Work", "goBack", "()I"⟩, 14) := ⟨⟨by decide +kernel, by decide +kernel⟩, List.mem_of_getElem? (i := 178) (by decide +kernel), List.mem_of_getElem? (i := 708) (by decide +kernel), List.mem_of_getElem? (i := 709) (by decide +kernel)⟩
theorem lw_p11 : lw_okq (⟨"PlainSteps$Work", "writeWhatWaits", "()V"⟩, 14) := ⟨⟨by decide +kernel, by decide +kernel⟩, List.mem_of_getElem? (i := 178) (by decide +kernel), List.mem_of_getElem? (i := 720) (by decide +kernel), List.mem_of_getElem? (i := 721) (by decide +kernel)⟩
theorem lw_p12 : lw_okq (⟨"PlainSteps$Work", "takeBack", "()V"⟩, 14) := ⟨⟨by decide +kernel, by decide +kernel⟩, List.mem_of_getElem? (i := 178) (by decide +kernel), List.mem_of_getElem? (i := 730) (by decide +kernel), List.mem_of_getElem? (i := 731) (by decide +kernel)⟩
theorem lw_p13 : lw_okq (⟨"PlainSteps$Machine", "settlePlace", "(IZ)V"⟩, 11) := ⟨⟨by decide +kernel, by decide +kernel⟩, List.mem_of_getElem? (i := 254) (by decide +kernel), List.mem_of_getElem? (i := 743) (by decide +kernel), List.mem_of_getElem? (i := 744) (by decide +kernel)⟩
theorem lw_p14 : lw_okq (⟨"PlainStepsModel", "goes", "(ZZ)Z"⟩, 52) := ⟨⟨by decide +kernel, by decide +kernel⟩, List.mem_of_getElem? (i := 816) (by decide +kernel), List.mem_of_getElem? (i := 991) (by decide +kernel), List.mem_of_getElem? (i := 992) (by decide +kernel)⟩
theorem lw_p15 : lw_okq (⟨"PlainStepsModel", "isOperand", "(I)Z"⟩, 52) := ⟨⟨by decide +kernel, by decide +kernel⟩, List.mem_of_getElem? (i := 816) (by decide +kernel), List.mem_of_getElem? (i := 1009) (by decide +kernel), List.mem_of_getElem? (i := 1010) (by decide +kernel)⟩
def lw_privs_1 : List (MethodName × Nat) := [(⟨"java/lang/Throwable", "fillInStackTrace", "(I)Ljava/lang/Throwable;"⟩, 6), (⟨"PlainSteps$Machine", "interruptBy", "(I)V"⟩, 11), (⟨"PlainSteps$Machine", "failWith", "(II)V"⟩, 11), (⟨"PlainSteps$Work", "prepare", "(II)V"⟩, 14), (⟨"PlainSteps$Work", "doTransfer", "(I)I"⟩, 14), (⟨"PlainSteps$Operands", "readField", "(II)J"⟩, 7), (⟨"PlainSteps$Work", "divide", "(IJJII)I"⟩, 14), (⟨"PlainSteps$Work", "write", "(IIJ)V"⟩, 14), (⟨"PlainSteps$Work", "load", "(ZJII)I"⟩, 14), (⟨"PlainSteps$Work", "store", "(ZJJ)I"⟩, 14), (⟨"PlainSteps$Work", "goBack", "()I"⟩, 14), (⟨"PlainSteps$Work", "writeWhatWaits", "()V"⟩, 14), (⟨"PlainSteps$Work", "takeBack", "()V"⟩, 14), (⟨"PlainSteps$Machine", "settlePlace", "(IZ)V"⟩, 11), (⟨"PlainStepsModel", "goes", "(ZZ)Z"⟩, 52), (⟨"PlainStepsModel", "isOperand", "(I)Z"⟩, 52)]
theorem lw_r1 : ∀ q ∈ lw_privs_1, lw_okq q := List.forall_mem_cons.mpr ⟨lw_p0, List.forall_mem_cons.mpr ⟨lw_p1, List.forall_mem_cons.mpr ⟨lw_p2, List.forall_mem_cons.mpr ⟨lw_p3, List.forall_mem_cons.mpr ⟨lw_p4, List.forall_mem_cons.mpr ⟨lw_p5, List.forall_mem_cons.mpr ⟨lw_p6, List.forall_mem_cons.mpr ⟨lw_p7, List.forall_mem_cons.mpr ⟨lw_p8, List.forall_mem_cons.mpr ⟨lw_p9, List.forall_mem_cons.mpr ⟨lw_p10, List.forall_mem_cons.mpr ⟨lw_p11, List.forall_mem_cons.mpr ⟨lw_p12, List.forall_mem_cons.mpr ⟨lw_p13, List.forall_mem_cons.mpr ⟨lw_p14, List.forall_mem_cons.mpr ⟨lw_p15, fun _ h => absurd h List.not_mem_nil⟩⟩⟩⟩⟩⟩⟩⟩⟩⟩⟩⟩⟩⟩⟩⟩
theorem lw_p16 : lw_okq (⟨"PlainStepsModel", "stepOnce", "()V"⟩, 52) := ⟨⟨by decide +kernel, by decide +kernel⟩, List.mem_of_getElem? (i := 816) (by decide +kernel), List.mem_of_getElem? (i := 1035) (by decide +kernel), List.mem_of_getElem? (i := 1036) (by decide +kernel)⟩
theorem lw_p17 : lw_okq (⟨"PlainStepsModel", "waitingLine", "()I"⟩, 52) := ⟨⟨by decide +kernel, by decide +kernel⟩, List.mem_of_getElem? (i := 816) (by decide +kernel), List.mem_of_getElem? (i := 1039) (by decide +kernel), List.mem_of_getElem? (i := 1040) (by decide +kernel)⟩
theorem lw_p18 : lw_okq (⟨"PlainStepsModel", "doInstruction", "()V"⟩, 52) := ⟨⟨by decide +kernel, by decide +kernel⟩, List.mem_of_getElem? (i := 816) (by decide +kernel), List.mem_of_getElem? (i := 1043) (by decide +kernel), List.mem_of_getElem? (i := 1044) (by decide +kernel)⟩
theorem lw_p19 : lw_okq (⟨"PlainStepsModel", "takeFault", "(I)V"⟩, 52) := ⟨⟨by decide +kernel, by decide +kernel⟩, List.mem_of_getElem? (i := 816) (by decide +kernel), List.mem_of_getElem? (i := 1047) (by decide +kernel), List.mem_of_getElem? (i := 1048) (by decide +kernel)⟩
theorem lw_p20 : lw_okq (⟨"PlainStepsModel", "keep", "(III)Z"⟩, 52) := ⟨⟨by decide +kernel, by decide +kernel⟩, List.mem_of_getElem? (i := 816) (by decide +kernel), List.mem_of_getElem? (i := 1051) (by decide +kernel), List.mem_of_getElem? (i := 1052) (by decide +kernel)⟩
theorem lw_p21 : lw_okq (⟨"PlainStepsModel", "find", "()I"⟩, 52) := ⟨⟨by decide +kernel, by decide +kernel⟩, List.mem_of_getElem? (i := 816) (by decide +kernel), List.mem_of_getElem? (i := 1055) (by decide +kernel), List.mem_of_getElem? (i := 1056) (by decide +kernel)⟩
theorem lw_p22 : lw_okq (⟨"PlainStepsModel", "save", "()V"⟩, 52) := ⟨⟨by decide +kernel, by decide +kernel⟩, List.mem_of_getElem? (i := 816) (by decide +kernel), List.mem_of_getElem? (i := 1059) (by decide +kernel), List.mem_of_getElem? (i := 1060) (by decide +kernel)⟩
theorem lw_p23 : lw_okq (⟨"PlainStepsModel", "doAll", "(I)V"⟩, 52) := ⟨⟨by decide +kernel, by decide +kernel⟩, List.mem_of_getElem? (i := 816) (by decide +kernel), List.mem_of_getElem? (i := 1064) (by decide +kernel), List.mem_of_getElem? (i := 1065) (by decide +kernel)⟩
theorem lw_p24 : lw_okq (⟨"PlainStepsModel", "doTransfer", "(II)V"⟩, 52) := ⟨⟨by decide +kernel, by decide +kernel⟩, List.mem_of_getElem? (i := 816) (by decide +kernel), List.mem_of_getElem? (i := 1068) (by decide +kernel), List.mem_of_getElem? (i := 1069) (by decide +kernel)⟩
theorem lw_p25 : lw_okq (⟨"PlainStepsModel", "operand", "(II)J"⟩, 52) := ⟨⟨by decide +kernel, by decide +kernel⟩, List.mem_of_getElem? (i := 816) (by decide +kernel), List.mem_of_getElem? (i := 1072) (by decide +kernel), List.mem_of_getElem? (i := 1073) (by decide +kernel)⟩
theorem lw_p26 : lw_okq (⟨"PlainStepsModel", "isParallel", "(I)Z"⟩, 52) := ⟨⟨by decide +kernel, by decide +kernel⟩, List.mem_of_getElem? (i := 816) (by decide +kernel), List.mem_of_getElem? (i := 1076) (by decide +kernel), List.mem_of_getElem? (i := 1077) (by decide +kernel)⟩
theorem lw_p27 : lw_okq (⟨"PlainStepsModel", "store", "(IJJI)V"⟩, 52) := ⟨⟨by decide +kernel, by decide +kernel⟩, List.mem_of_getElem? (i := 816) (by decide +kernel), List.mem_of_getElem? (i := 1081) (by decide +kernel), List.mem_of_getElem? (i := 1082) (by decide +kernel)⟩
theorem lw_p28 : lw_okq (⟨"PlainStepsModel", "isThere", "(JI)Z"⟩, 52) := ⟨⟨by decide +kernel, by decide +kernel⟩, List.mem_of_getElem? (i := 816) (by decide +kernel), List.mem_of_getElem? (i := 1085) (by decide +kernel), List.mem_of_getElem? (i := 1086) (by decide +kernel)⟩
theorem lw_p29 : lw_okq (⟨"PlainStepsModel", "later", "(IIJZ)V"⟩, 52) := ⟨⟨by decide +kernel, by decide +kernel⟩, List.mem_of_getElem? (i := 816) (by decide +kernel), List.mem_of_getElem? (i := 1089) (by decide +kernel), List.mem_of_getElem? (i := 1090) (by decide +kernel)⟩
theorem lw_p30 : lw_okq (⟨"PlainStepsModel", "setMemory", "(IJI)V"⟩, 52) := ⟨⟨by decide +kernel, by decide +kernel⟩, List.mem_of_getElem? (i := 816) (by decide +kernel), List.mem_of_getElem? (i := 1093) (by decide +kernel), List.mem_of_getElem? (i := 1094) (by decide +kernel)⟩
theorem lw_p31 : lw_okq (⟨"PlainStepsModel", "markOnly", "(II)V"⟩, 52) := ⟨⟨by decide +kernel, by decide +kernel⟩, List.mem_of_getElem? (i := 816) (by decide +kernel), List.mem_of_getElem? (i := 1097) (by decide +kernel), List.mem_of_getElem? (i := 1098) (by decide +kernel)⟩
def lw_privs_2 : List (MethodName × Nat) := [(⟨"PlainStepsModel", "stepOnce", "()V"⟩, 52), (⟨"PlainStepsModel", "waitingLine", "()I"⟩, 52), (⟨"PlainStepsModel", "doInstruction", "()V"⟩, 52), (⟨"PlainStepsModel", "takeFault", "(I)V"⟩, 52), (⟨"PlainStepsModel", "keep", "(III)Z"⟩, 52), (⟨"PlainStepsModel", "find", "()I"⟩, 52), (⟨"PlainStepsModel", "save", "()V"⟩, 52), (⟨"PlainStepsModel", "doAll", "(I)V"⟩, 52), (⟨"PlainStepsModel", "doTransfer", "(II)V"⟩, 52), (⟨"PlainStepsModel", "operand", "(II)J"⟩, 52), (⟨"PlainStepsModel", "isParallel", "(I)Z"⟩, 52), (⟨"PlainStepsModel", "store", "(IJJI)V"⟩, 52), (⟨"PlainStepsModel", "isThere", "(JI)Z"⟩, 52), (⟨"PlainStepsModel", "later", "(IIJZ)V"⟩, 52), (⟨"PlainStepsModel", "setMemory", "(IJI)V"⟩, 52), (⟨"PlainStepsModel", "markOnly", "(II)V"⟩, 52)]
theorem lw_r2 : ∀ q ∈ lw_privs_2, lw_okq q := List.forall_mem_cons.mpr ⟨lw_p16, List.forall_mem_cons.mpr ⟨lw_p17, List.forall_mem_cons.mpr ⟨lw_p18, List.forall_mem_cons.mpr ⟨lw_p19, List.forall_mem_cons.mpr ⟨lw_p20, List.forall_mem_cons.mpr ⟨lw_p21, List.forall_mem_cons.mpr ⟨lw_p22, List.forall_mem_cons.mpr ⟨lw_p23, List.forall_mem_cons.mpr ⟨lw_p24, List.forall_mem_cons.mpr ⟨lw_p25, List.forall_mem_cons.mpr ⟨lw_p26, List.forall_mem_cons.mpr ⟨lw_p27, List.forall_mem_cons.mpr ⟨lw_p28, List.forall_mem_cons.mpr ⟨lw_p29, List.forall_mem_cons.mpr ⟨lw_p30, List.forall_mem_cons.mpr ⟨lw_p31, fun _ h => absurd h List.not_mem_nil⟩⟩⟩⟩⟩⟩⟩⟩⟩⟩⟩⟩⟩⟩⟩⟩
theorem lw_p32 : lw_okq (⟨"PlainStepsModel", "back", "()V"⟩, 52) := ⟨⟨by decide +kernel, by decide +kernel⟩, List.mem_of_getElem? (i := 816) (by decide +kernel), List.mem_of_getElem? (i := 1101) (by decide +kernel), List.mem_of_getElem? (i := 1102) (by decide +kernel)⟩
theorem lw_p33 : lw_okq (⟨"PlainStepsModel", "compute", "(IIJJ)V"⟩, 52) := ⟨⟨by decide +kernel, by decide +kernel⟩, List.mem_of_getElem? (i := 816) (by decide +kernel), List.mem_of_getElem? (i := 1105) (by decide +kernel), List.mem_of_getElem? (i := 1106) (by decide +kernel)⟩
theorem lw_p34 : lw_okq (⟨"PlainStepsModel", "isMarked", "(II)Z"⟩, 52) := ⟨⟨by decide +kernel, by decide +kernel⟩, List.mem_of_getElem? (i := 816) (by decide +kernel), List.mem_of_getElem? (i := 1109) (by decide +kernel), List.mem_of_getElem? (i := 1110) (by decide +kernel)⟩
theorem lw_p35 : lw_okq (⟨"PlainStepsModel", "result", "(IIJZ)V"⟩, 52) := ⟨⟨by decide +kernel, by decide +kernel⟩, List.mem_of_getElem? (i := 816) (by decide +kernel), List.mem_of_getElem? (i := 1124) (by decide +kernel), List.mem_of_getElem? (i := 1125) (by decide +kernel)⟩
theorem lw_p36 : lw_okq (⟨"PlainStepsModel", "cut", "(IJ)J"⟩, 52) := ⟨⟨by decide +kernel, by decide +kernel⟩, List.mem_of_getElem? (i := 816) (by decide +kernel), List.mem_of_getElem? (i := 1128) (by decide +kernel), List.mem_of_getElem? (i := 1129) (by decide +kernel)⟩
theorem lw_p37 : lw_okq (⟨"PlainStepsModel", "setRegister", "(IJZ)V"⟩, 52) := ⟨⟨by decide +kernel, by decide +kernel⟩, List.mem_of_getElem? (i := 816) (by decide +kernel), List.mem_of_getElem? (i := 1132) (by decide +kernel), List.mem_of_getElem? (i := 1133) (by decide +kernel)⟩
theorem lw_p38 : lw_okq (⟨"PlainStepsModel", "writeAll", "()V"⟩, 52) := ⟨⟨by decide +kernel, by decide +kernel⟩, List.mem_of_getElem? (i := 816) (by decide +kernel), List.mem_of_getElem? (i := 1136) (by decide +kernel), List.mem_of_getElem? (i := 1137) (by decide +kernel)⟩
theorem lw_p39 : lw_okq (⟨"PlainStepsModel", "restore", "()V"⟩, 52) := ⟨⟨by decide +kernel, by decide +kernel⟩, List.mem_of_getElem? (i := 816) (by decide +kernel), List.mem_of_getElem? (i := 1140) (by decide +kernel), List.mem_of_getElem? (i := 1141) (by decide +kernel)⟩
theorem lw_p40 : lw_okq (⟨"PlainStepsModel", "comePlace", "(I)V"⟩, 52) := ⟨⟨by decide +kernel, by decide +kernel⟩, List.mem_of_getElem? (i := 816) (by decide +kernel), List.mem_of_getElem? (i := 1144) (by decide +kernel), List.mem_of_getElem? (i := 1145) (by decide +kernel)⟩
theorem lw_p41 : lw_okq (⟨"PlainStepsModel", "isRegister", "(I)Z"⟩, 52) := ⟨⟨by decide +kernel, by decide +kernel⟩, List.mem_of_getElem? (i := 816) (by decide +kernel), List.mem_of_getElem? (i := 1152) (by decide +kernel), List.mem_of_getElem? (i := 1153) (by decide +kernel)⟩
def lw_privs_3 : List (MethodName × Nat) := [(⟨"PlainStepsModel", "back", "()V"⟩, 52), (⟨"PlainStepsModel", "compute", "(IIJJ)V"⟩, 52), (⟨"PlainStepsModel", "isMarked", "(II)Z"⟩, 52), (⟨"PlainStepsModel", "result", "(IIJZ)V"⟩, 52), (⟨"PlainStepsModel", "cut", "(IJ)J"⟩, 52), (⟨"PlainStepsModel", "setRegister", "(IJZ)V"⟩, 52), (⟨"PlainStepsModel", "writeAll", "()V"⟩, 52), (⟨"PlainStepsModel", "restore", "()V"⟩, 52), (⟨"PlainStepsModel", "comePlace", "(I)V"⟩, 52), (⟨"PlainStepsModel", "isRegister", "(I)Z"⟩, 52)]
theorem lw_r3 : ∀ q ∈ lw_privs_3, lw_okq q := List.forall_mem_cons.mpr ⟨lw_p32, List.forall_mem_cons.mpr ⟨lw_p33, List.forall_mem_cons.mpr ⟨lw_p34, List.forall_mem_cons.mpr ⟨lw_p35, List.forall_mem_cons.mpr ⟨lw_p36, List.forall_mem_cons.mpr ⟨lw_p37, List.forall_mem_cons.mpr ⟨lw_p38, List.forall_mem_cons.mpr ⟨lw_p39, List.forall_mem_cons.mpr ⟨lw_p40, List.forall_mem_cons.mpr ⟨lw_p41, fun _ h => absurd h List.not_mem_nil⟩⟩⟩⟩⟩⟩⟩⟩⟩⟩
def lw_privs : List (MethodName × Nat) := lw_privs_1 ++ (lw_privs_2 ++ (lw_privs_3))
def lw_tbl : List Cond := k2_sels lw_privs ++ tables_1
theorem lw_privs_ok : ∀ q ∈ lw_privs, lw_okq q := by
  show ∀ q ∈ lw_privs_1 ++ (lw_privs_2 ++ (lw_privs_3)), lw_okq q
  exact List.forall_mem_append.mpr ⟨lw_r1, List.forall_mem_append.mpr ⟨lw_r2, lw_r3⟩⟩
/-! the words that every method here is given: those of the tables that stay -/
def zq_W : List Cond := lw_tbl.filter goodWord
theorem zq_Wg {w : Cond} (h : w ∈ zq_W) : goodWord w = true := (List.mem_filter.mp h).2
theorem zq_gW {w : Cond} (h : w ∈ zq_W) : w ∈ zq_W ∧ ((w.onTables && w.keeps) = true ∨ ∃ ty, w = .arrayClass ty) := ⟨h, good_of_word (zq_Wg h)⟩
theorem zq_gI {y : MethodName} {b : ByteArray} {n : Nat} {r : Option FieldType} (h : Cond.code y b n r ∈ zq_W) : GoodIn zq_W (.code y b n r :: zq_W) := fun w hw => by
  rcases List.mem_cons.mp hw with rfl | hw
  · exact zq_gW h
  · exact zq_gW hw
theorem zq_gV {own C : String} {idx : Nat} {y : MethodName} {b : ByteArray} {n : Nat} {r : Option FieldType} (h1 : Cond.methodLink own idx y ∈ zq_W) (h2 : Cond.instanceMethod y ∈ zq_W) (h3 : Cond.selects C y y ∈ zq_W) (h4 : Cond.initialized C ∈ zq_W) (h5 : Cond.code y b n r ∈ zq_W) : GoodIn zq_W (wsV own idx C y (.code y b n r :: zq_W)) := fun w hw => by
  unfold wsV at hw
  rcases List.mem_append.mp hw with hw | hw
  · simp only [List.mem_cons, List.not_mem_nil, or_false] at hw
    rcases hw with rfl | rfl | rfl | rfl
    · exact zq_gW h1
    · exact zq_gW h2
    · exact zq_gW h3
    · exact zq_gW h4
  · exact zq_gI h5 w hw
theorem zq_gS {own : String} {idx : Nat} {y : MethodName} {b : ByteArray} {n : Nat} {r : Option FieldType} (h1 : Cond.methodLink own idx y ∈ zq_W) (h2 : Cond.static y ∈ zq_W) (h3 : Cond.initialized own ∈ zq_W) (h5 : Cond.code y b n r ∈ zq_W) : GoodIn zq_W (wsS own idx y (.code y b n r :: zq_W)) := fun w hw => by
  unfold wsS at hw
  rcases List.mem_append.mp hw with hw | hw
  · simp only [List.mem_cons, List.not_mem_nil, or_false] at hw
    rcases hw with rfl | rfl | rfl
    · exact zq_gW h1
    · exact zq_gW h2
    · exact zq_gW h3
  · exact zq_gI h5 w hw
abbrev zR_Registers : String := "PlainSteps$Registers"
def zF_Registers : u_T := fun k => match k with
  | 0 => ("PlainSteps$Registers", "cuts", "[J", true)
  | 1 => ("PlainSteps$Registers", "values", "[J", true)
  | 2 => ("PlainSteps$Registers", "marks", "[Z", true)
  | _ => ("PlainSteps$Registers", "count", "I", false)
def zt_Registers : Nat → FieldType := fun k => match k with
  | 0 => (.array .long)
  | 1 => (.array .long)
  | 2 => (.array .boolean)
  | _ => .int
theorem zn_Registers : ∀ a, a < 4 → ∀ b, b < 4 → a ≠ b → (zF_Registers a).2.1 ≠ (zF_Registers b).2.1 := by decide +kernel
theorem zt_Registers_ok : ∀ k, k < 4 → parseFieldDescriptor (zF_Registers k).2.2.1 = some (zt_Registers k) := by decide +kernel
abbrev zR_Bytes : String := "PlainSteps$Bytes"
def zF_Bytes : u_T := fun k => match k with
  | _ => ("PlainSteps$Bytes", "cells", "[B", true)
def zt_Bytes : Nat → FieldType := fun k => match k with
  | _ => (.array .byte)
theorem zn_Bytes : ∀ a, a < 1 → ∀ b, b < 1 → a ≠ b → (zF_Bytes a).2.1 ≠ (zF_Bytes b).2.1 := by decide +kernel
theorem zt_Bytes_ok : ∀ k, k < 1 → parseFieldDescriptor (zF_Bytes k).2.2.1 = some (zt_Bytes k) := by decide +kernel
abbrev zR_Operands : String := "PlainSteps$Operands"
def zF_Operands : u_T := fun k => match k with
  | 0 => ("PlainSteps$Operands", "registers", "LPlainSteps$Registers;", true)
  | 1 => ("PlainSteps$Operands", "constants", "[J", true)
  | 2 => ("PlainSteps$Operands", "fieldFrom", "[I", true)
  | 3 => ("PlainSteps$Operands", "fieldTo", "[I", true)
  | 4 => ("PlainSteps$Operands", "fieldSign", "[Z", true)
  | 5 => ("PlainSteps$Operands", "constantCount", "I", false)
  | _ => ("PlainSteps$Operands", "fieldCount", "I", false)
def zt_Operands : Nat → FieldType := fun k => match k with
  | 0 => (.object "PlainSteps$Registers")
  | 1 => (.array .long)
  | 2 => (.array .int)
  | 3 => (.array .int)
  | 4 => (.array .boolean)
  | 5 => .int
  | _ => .int
theorem zn_Operands : ∀ a, a < 7 → ∀ b, b < 7 → a ≠ b → (zF_Operands a).2.1 ≠ (zF_Operands b).2.1 := by decide +kernel
theorem zt_Operands_ok : ∀ k, k < 7 → parseFieldDescriptor (zF_Operands k).2.2.1 = some (zt_Operands k) := by decide +kernel
abbrev zR_Program : String := "PlainSteps$Program"
def zF_Program : u_T := fun k => match k with
  | 0 => ("PlainSteps$Program", "ops", "[I", true)
  | 1 => ("PlainSteps$Program", "firsts", "[I", true)
  | 2 => ("PlainSteps$Program", "seconds", "[I", true)
  | 3 => ("PlainSteps$Program", "targets", "[I", true)
  | 4 => ("PlainSteps$Program", "transferCount", "I", false)
  | 5 => ("PlainSteps$Program", "masks", "[I", true)
  | 6 => ("PlainSteps$Program", "values", "[I", true)
  | 7 => ("PlainSteps$Program", "ways", "[I", true)
  | 8 => ("PlainSteps$Program", "starts", "[I", true)
  | 9 => ("PlainSteps$Program", "ends", "[I", true)
  | _ => ("PlainSteps$Program", "instructionCount", "I", false)
def zt_Program : Nat → FieldType := fun k => match k with
  | 0 => (.array .int)
  | 1 => (.array .int)
  | 2 => (.array .int)
  | 3 => (.array .int)
  | 4 => .int
  | 5 => (.array .int)
  | 6 => (.array .int)
  | 7 => (.array .int)
  | 8 => (.array .int)
  | 9 => (.array .int)
  | _ => .int
theorem zn_Program : ∀ a, a < 11 → ∀ b, b < 11 → a ≠ b → (zF_Program a).2.1 ≠ (zF_Program b).2.1 := by decide +kernel
theorem zt_Program_ok : ∀ k, k < 11 → parseFieldDescriptor (zF_Program k).2.2.1 = some (zt_Program k) := by decide +kernel
abbrev zR_Kept : String := "PlainSteps$Kept"
def zF_Kept : u_T := fun k => match k with
  | 0 => ("PlainSteps$Kept", "places", "[I", true)
  | 1 => ("PlainSteps$Kept", "levels", "[I", true)
  | 2 => ("PlainSteps$Kept", "count", "I", false)
  | _ => ("PlainSteps$Kept", "level", "I", false)
def zt_Kept : Nat → FieldType := fun k => match k with
  | 0 => (.array .int)
  | 1 => (.array .int)
  | 2 => .int
  | _ => .int
theorem zn_Kept : ∀ a, a < 4 → ∀ b, b < 4 → a ≠ b → (zF_Kept a).2.1 ≠ (zF_Kept b).2.1 := by decide +kernel
theorem zt_Kept_ok : ∀ k, k < 4 → parseFieldDescriptor (zF_Kept k).2.2.1 = some (zt_Kept k) := by decide +kernel
abbrev zR_Lines : String := "PlainSteps$Lines"
def zF_Lines : u_T := fun k => match k with
  | 0 => ("PlainSteps$Lines", "on", "[Z", true)
  | _ => ("PlainSteps$Lines", "ranks", "[I", true)
def zt_Lines : Nat → FieldType := fun k => match k with
  | 0 => (.array .boolean)
  | _ => (.array .int)
theorem zn_Lines : ∀ a, a < 2 → ∀ b, b < 2 → a ≠ b → (zF_Lines a).2.1 ≠ (zF_Lines b).2.1 := by decide +kernel
theorem zt_Lines_ok : ∀ k, k < 2 → parseFieldDescriptor (zF_Lines k).2.2.1 = some (zt_Lines k) := by decide +kernel
abbrev zR_Writes : String := "PlainSteps$Writes"
def zF_Writes : u_T := fun k => match k with
  | 0 => ("PlainSteps$Writes", "registers", "LPlainSteps$Registers;", true)
  | 1 => ("PlainSteps$Writes", "bytes", "LPlainSteps$Bytes;", true)
  | 2 => ("PlainSteps$Writes", "forms", "[I", true)
  | 3 => ("PlainSteps$Writes", "targets", "[I", true)
  | 4 => ("PlainSteps$Writes", "values", "[J", true)
  | _ => ("PlainSteps$Writes", "count", "I", false)
def zt_Writes : Nat → FieldType := fun k => match k with
  | 0 => (.object "PlainSteps$Registers")
  | 1 => (.object "PlainSteps$Bytes")
  | 2 => (.array .int)
  | 3 => (.array .int)
  | 4 => (.array .long)
  | _ => .int
theorem zn_Writes : ∀ a, a < 6 → ∀ b, b < 6 → a ≠ b → (zF_Writes a).2.1 ≠ (zF_Writes b).2.1 := by decide +kernel
theorem zt_Writes_ok : ∀ k, k < 6 → parseFieldDescriptor (zF_Writes k).2.2.1 = some (zt_Writes k) := by decide +kernel
abbrev zR_Work : String := "PlainSteps$Work"
def zF_Work : u_T := fun k => match k with
  | 0 => ("PlainSteps$Work", "registers", "LPlainSteps$Registers;", true)
  | 1 => ("PlainSteps$Work", "bytes", "LPlainSteps$Bytes;", true)
  | 2 => ("PlainSteps$Work", "operands", "LPlainSteps$Operands;", true)
  | 3 => ("PlainSteps$Work", "program", "LPlainSteps$Program;", true)
  | 4 => ("PlainSteps$Work", "kept", "LPlainSteps$Kept;", true)
  | 5 => ("PlainSteps$Work", "writes", "LPlainSteps$Writes;", true)
  | 6 => ("PlainSteps$Work", "counts", "[I", true)
  | 7 => ("PlainSteps$Work", "word", "I", false)
  | 8 => ("PlainSteps$Work", "parallel", "Z", false)
  | 9 => ("PlainSteps$Work", "restoring", "Z", false)
  | 10 => ("PlainSteps$Work", "wrotePlace", "Z", false)
  | 11 => ("PlainSteps$Work", "ended", "Z", false)
  | 12 => ("PlainSteps$Work", "halts", "Z", false)
  | _ => ("PlainSteps$Work", "backPlace", "I", false)
def zt_Work : Nat → FieldType := fun k => match k with
  | 0 => (.object "PlainSteps$Registers")
  | 1 => (.object "PlainSteps$Bytes")
  | 2 => (.object "PlainSteps$Operands")
  | 3 => (.object "PlainSteps$Program")
  | 4 => (.object "PlainSteps$Kept")
  | 5 => (.object "PlainSteps$Writes")
  | 6 => (.array .int)
  | 7 => .int
  | 8 => .boolean
  | 9 => .boolean
  | 10 => .boolean
  | 11 => .boolean
  | 12 => .boolean
  | _ => .int
theorem zn_Work : ∀ a, a < 14 → ∀ b, b < 14 → a ≠ b → (zF_Work a).2.1 ≠ (zF_Work b).2.1 := by decide +kernel
theorem zt_Work_ok : ∀ k, k < 14 → parseFieldDescriptor (zF_Work k).2.2.1 = some (zt_Work k) := by decide +kernel
abbrev zR_Machine : String := "PlainSteps$Machine"
def zF_Machine : u_T := fun k => match k with
  | 0 => ("PlainSteps$Machine", "registers", "LPlainSteps$Registers;", true)
  | 1 => ("PlainSteps$Machine", "bytes", "LPlainSteps$Bytes;", true)
  | 2 => ("PlainSteps$Machine", "program", "LPlainSteps$Program;", true)
  | 3 => ("PlainSteps$Machine", "kept", "LPlainSteps$Kept;", true)
  | 4 => ("PlainSteps$Machine", "lines", "LPlainSteps$Lines;", true)
  | 5 => ("PlainSteps$Machine", "work", "LPlainSteps$Work;", true)
  | 6 => ("PlainSteps$Machine", "counts", "[I", true)
  | 7 => ("PlainSteps$Machine", "waitingPlace", "I", false)
  | 8 => ("PlainSteps$Machine", "halt", "I", false)
  | 9 => ("PlainSteps$Machine", "faultKind", "I", false)
  | _ => ("PlainSteps$Machine", "faultPlace", "I", false)
def zt_Machine : Nat → FieldType := fun k => match k with
  | 0 => (.object "PlainSteps$Registers")
  | 1 => (.object "PlainSteps$Bytes")
  | 2 => (.object "PlainSteps$Program")
  | 3 => (.object "PlainSteps$Kept")
  | 4 => (.object "PlainSteps$Lines")
  | 5 => (.object "PlainSteps$Work")
  | 6 => (.array .int)
  | 7 => .int
  | 8 => .int
  | 9 => .int
  | _ => .int
theorem zn_Machine : ∀ a, a < 11 → ∀ b, b < 11 → a ≠ b → (zF_Machine a).2.1 ≠ (zF_Machine b).2.1 := by decide +kernel
theorem zt_Machine_ok : ∀ k, k < 11 → parseFieldDescriptor (zF_Machine k).2.2.1 = some (zt_Machine k) := by decide +kernel
abbrev zR_PS : String := "PlainSteps"
def zF_PS : u_T := fun k => match k with
  | 0 => ("PlainSteps", "registers", "LPlainSteps$Registers;", true)
  | 1 => ("PlainSteps", "bytes", "LPlainSteps$Bytes;", true)
  | 2 => ("PlainSteps", "operands", "LPlainSteps$Operands;", true)
  | 3 => ("PlainSteps", "program", "LPlainSteps$Program;", true)
  | 4 => ("PlainSteps", "kept", "LPlainSteps$Kept;", true)
  | 5 => ("PlainSteps", "lines", "LPlainSteps$Lines;", true)
  | 6 => ("PlainSteps", "machine", "LPlainSteps$Machine;", true)
  | _ => ("PlainSteps", "counts", "[I", true)
def zt_PS : Nat → FieldType := fun k => match k with
  | 0 => (.object "PlainSteps$Registers")
  | 1 => (.object "PlainSteps$Bytes")
  | 2 => (.object "PlainSteps$Operands")
  | 3 => (.object "PlainSteps$Program")
  | 4 => (.object "PlainSteps$Kept")
  | 5 => (.object "PlainSteps$Lines")
  | 6 => (.object "PlainSteps$Machine")
  | _ => (.array .int)
theorem zn_PS : ∀ a, a < 8 → ∀ b, b < 8 → a ≠ b → (zF_PS a).2.1 ≠ (zF_PS b).2.1 := by decide +kernel
theorem zt_PS_ok : ∀ k, k < 8 → parseFieldDescriptor (zF_PS k).2.2.1 = some (zt_PS k) := by decide +kernel
abbrev zR_M : String := "PlainStepsModel"
def zF_M : u_T := fun k => match k with
  | 0 => ("PlainStepsModel", "thrown", "I", false)
  | 1 => ("PlainStepsModel", "registers", "I", false)
  | 2 => ("PlainStepsModel", "width", "[I", true)
  | 3 => ("PlainStepsModel", "value", "[J", true)
  | 4 => ("PlainStepsModel", "before", "[J", true)
  | 5 => ("PlainStepsModel", "saved", "[J", true)
  | 6 => ("PlainStepsModel", "marked", "[Z", true)
  | 7 => ("PlainStepsModel", "markedBefore", "[Z", true)
  | 8 => ("PlainStepsModel", "markedSaved", "[Z", true)
  | 9 => ("PlainStepsModel", "memory", "[B", true)
  | 10 => ("PlainStepsModel", "memorySaved", "[B", true)
  | 11 => ("PlainStepsModel", "constants", "I", false)
  | 12 => ("PlainStepsModel", "fields", "I", false)
  | 13 => ("PlainStepsModel", "transfers", "I", false)
  | 14 => ("PlainStepsModel", "instructions", "I", false)
  | 15 => ("PlainStepsModel", "constant", "[J", true)
  | 16 => ("PlainStepsModel", "from", "[I", true)
  | 17 => ("PlainStepsModel", "to", "[I", true)
  | 18 => ("PlainStepsModel", "signed", "[Z", true)
  | 19 => ("PlainStepsModel", "op", "[I", true)
  | 20 => ("PlainStepsModel", "first", "[I", true)
  | 21 => ("PlainStepsModel", "second", "[I", true)
  | 22 => ("PlainStepsModel", "target", "[I", true)
  | 23 => ("PlainStepsModel", "mask", "[I", true)
  | 24 => ("PlainStepsModel", "pattern", "[I", true)
  | 25 => ("PlainStepsModel", "how", "[I", true)
  | 26 => ("PlainStepsModel", "begin", "[I", true)
  | 27 => ("PlainStepsModel", "on", "[Z", true)
  | 28 => ("PlainStepsModel", "rank", "[I", true)
  | 29 => ("PlainStepsModel", "level", "I", false)
  | 30 => ("PlainStepsModel", "kept", "I", false)
  | 31 => ("PlainStepsModel", "levelSaved", "I", false)
  | 32 => ("PlainStepsModel", "keptSaved", "I", false)
  | 33 => ("PlainStepsModel", "keptPlace", "[I", true)
  | 34 => ("PlainStepsModel", "keptLevel", "[I", true)
  | 35 => ("PlainStepsModel", "word", "I", false)
  | 36 => ("PlainStepsModel", "stands", "I", false)
  | 37 => ("PlainStepsModel", "fault", "I", false)
  | 38 => ("PlainStepsModel", "ends", "Z", false)
  | 39 => ("PlainStepsModel", "halts", "Z", false)
  | 40 => ("PlainStepsModel", "wrote", "Z", false)
  | 41 => ("PlainStepsModel", "waits", "Z", false)
  | 42 => ("PlainStepsModel", "waitsPlace", "J", false)
  | 43 => ("PlainStepsModel", "writes", "I", false)
  | 44 => ("PlainStepsModel", "writeTo", "[I", true)
  | 45 => ("PlainStepsModel", "writeAt", "[I", true)
  | 46 => ("PlainStepsModel", "writeValue", "[J", true)
  | 47 => ("PlainStepsModel", "writeMark", "[Z", true)
  | 48 => ("PlainStepsModel", "halted", "I", false)
  | 49 => ("PlainStepsModel", "latest", "I", false)
  | 50 => ("PlainStepsModel", "latestPlace", "I", false)
  | _ => ("PlainStepsModel", "count", "[I", true)
def zt_M : Nat → FieldType := fun k => match k with
  | 0 => .int
  | 1 => .int
  | 2 => (.array .int)
  | 3 => (.array .long)
  | 4 => (.array .long)
  | 5 => (.array .long)
  | 6 => (.array .boolean)
  | 7 => (.array .boolean)
  | 8 => (.array .boolean)
  | 9 => (.array .byte)
  | 10 => (.array .byte)
  | 11 => .int
  | 12 => .int
  | 13 => .int
  | 14 => .int
  | 15 => (.array .long)
  | 16 => (.array .int)
  | 17 => (.array .int)
  | 18 => (.array .boolean)
  | 19 => (.array .int)
  | 20 => (.array .int)
  | 21 => (.array .int)
  | 22 => (.array .int)
  | 23 => (.array .int)
  | 24 => (.array .int)
  | 25 => (.array .int)
  | 26 => (.array .int)
  | 27 => (.array .boolean)
  | 28 => (.array .int)
  | 29 => .int
  | 30 => .int
  | 31 => .int
  | 32 => .int
  | 33 => (.array .int)
  | 34 => (.array .int)
  | 35 => .int
  | 36 => .int
  | 37 => .int
  | 38 => .boolean
  | 39 => .boolean
  | 40 => .boolean
  | 41 => .boolean
  | 42 => .long
  | 43 => .int
  | 44 => (.array .int)
  | 45 => (.array .int)
  | 46 => (.array .long)
  | 47 => (.array .boolean)
  | 48 => .int
  | 49 => .int
  | 50 => .int
  | _ => (.array .int)
theorem zn_M : ∀ a, a < 52 → ∀ b, b < 52 → a ≠ b → (zF_M a).2.1 ≠ (zF_M b).2.1 := by decide +kernel
theorem zt_M_ok : ∀ k, k < 52 → parseFieldDescriptor (zF_M k).2.2.1 = some (zt_M k) := by decide +kernel
abbrev vwCl : List vw_C := [(zR_Registers, zF_Registers, 4), (zR_Bytes, zF_Bytes, 1), (zR_Operands, zF_Operands, 7), (zR_Program, zF_Program, 11), (zR_Kept, zF_Kept, 4), (zR_Lines, zF_Lines, 2), (zR_Writes, zF_Writes, 6), (zR_Work, zF_Work, 14), (zR_Machine, zF_Machine, 11), (zR_PS, zF_PS, 8), (zR_M, zF_M, 52)]
abbrev zy_Registers_init : MethodName := ⟨"PlainSteps$Registers", "<init>", "()V"⟩
abbrev zb_Registers_init : ByteArray := prog_8_method_1_code
abbrev zs_Registers_init : List Cond := .code zy_Registers_init zb_Registers_init 1 none :: zq_W
abbrev zy_Registers_add : MethodName := ⟨"PlainSteps$Registers", "add", "(I)I"⟩
abbrev zb_Registers_add : ByteArray := prog_8_method_2_code
abbrev zs_Registers_add : List Cond := .code zy_Registers_add zb_Registers_add 2 (some .int) :: zq_W
abbrev zy_Registers_has : MethodName := ⟨"PlainSteps$Registers", "has", "(I)Z"⟩
abbrev zb_Registers_has : ByteArray := prog_8_method_3_code
abbrev zs_Registers_has : List Cond := .code zy_Registers_has zb_Registers_has 2 (some .boolean) :: zq_W
abbrev zy_Registers_valueOf : MethodName := ⟨"PlainSteps$Registers", "valueOf", "(I)J"⟩
abbrev zb_Registers_valueOf : ByteArray := prog_8_method_4_code
abbrev zs_Registers_valueOf : List Cond := .code zy_Registers_valueOf zb_Registers_valueOf 2 (some .long) :: zq_W
abbrev zy_Registers_isMarked : MethodName := ⟨"PlainSteps$Registers", "isMarked", "(I)Z"⟩
abbrev zb_Registers_isMarked : ByteArray := prog_8_method_5_code
abbrev zs_Registers_isMarked : List Cond := .code zy_Registers_isMarked zb_Registers_isMarked 2 (some .boolean) :: zq_W
abbrev zy_Registers_put : MethodName := ⟨"PlainSteps$Registers", "put", "(IJZ)V"⟩
abbrev zb_Registers_put : ByteArray := prog_8_method_6_code
abbrev zs_Registers_put : List Cond := .code zy_Registers_put zb_Registers_put 5 none :: zq_W
abbrev zy_Registers_placeNow : MethodName := ⟨"PlainSteps$Registers", "placeNow", "()I"⟩
abbrev zb_Registers_placeNow : ByteArray := prog_8_method_7_code
abbrev zs_Registers_placeNow : List Cond := .code zy_Registers_placeNow zb_Registers_placeNow 1 (some .int) :: zq_W
abbrev zy_Registers_movePlace : MethodName := ⟨"PlainSteps$Registers", "movePlace", "(I)V"⟩
abbrev zb_Registers_movePlace : ByteArray := prog_8_method_8_code
abbrev zs_Registers_movePlace : List Cond := .code zy_Registers_movePlace zb_Registers_movePlace 2 none :: zq_W
abbrev zy_Bytes_init : MethodName := ⟨"PlainSteps$Bytes", "<init>", "()V"⟩
abbrev zb_Bytes_init : ByteArray := prog_2_method_1_code
abbrev zs_Bytes_init : List Cond := .code zy_Bytes_init zb_Bytes_init 1 none :: zq_W
abbrev zy_Bytes_hasByte : MethodName := ⟨"PlainSteps$Bytes", "hasByte", "(J)Z"⟩
abbrev zb_Bytes_hasByte : ByteArray := prog_2_method_2_code
abbrev zs_Bytes_hasByte : List Cond := .code zy_Bytes_hasByte zb_Bytes_hasByte 3 (some .boolean) :: zq_W
abbrev zy_Bytes_hasWord : MethodName := ⟨"PlainSteps$Bytes", "hasWord", "(J)Z"⟩
abbrev zb_Bytes_hasWord : ByteArray := prog_2_method_3_code
abbrev zs_Bytes_hasWord : List Cond := .code zy_Bytes_hasWord zb_Bytes_hasWord 3 (some .boolean) :: zq_W
abbrev zy_Bytes_byteOf : MethodName := ⟨"PlainSteps$Bytes", "byteOf", "(I)I"⟩
abbrev zb_Bytes_byteOf : ByteArray := prog_2_method_4_code
abbrev zs_Bytes_byteOf : List Cond := .code zy_Bytes_byteOf zb_Bytes_byteOf 2 (some .int) :: zq_W
abbrev zy_Bytes_wordOf : MethodName := ⟨"PlainSteps$Bytes", "wordOf", "(I)I"⟩
abbrev zb_Bytes_wordOf : ByteArray := prog_2_method_5_code
abbrev zs_Bytes_wordOf : List Cond := .code zy_Bytes_wordOf zb_Bytes_wordOf 2 (some .int) :: zq_W
abbrev zy_Bytes_putByte : MethodName := ⟨"PlainSteps$Bytes", "putByte", "(IJ)V"⟩
abbrev zb_Bytes_putByte : ByteArray := prog_2_method_6_code
abbrev zs_Bytes_putByte : List Cond := .code zy_Bytes_putByte zb_Bytes_putByte 4 none :: zq_W
abbrev zy_Bytes_putWord : MethodName := ⟨"PlainSteps$Bytes", "putWord", "(IJ)V"⟩
abbrev zb_Bytes_putWord : ByteArray := prog_2_method_7_code
abbrev zs_Bytes_putWord : List Cond := .code zy_Bytes_putWord zb_Bytes_putWord 4 none :: zq_W
abbrev zy_Operands_init : MethodName := ⟨"PlainSteps$Operands", "<init>", "(LPlainSteps$Registers;)V"⟩
abbrev zb_Operands_init : ByteArray := prog_6_method_1_code
abbrev zs_Operands_init : List Cond := .code zy_Operands_init zb_Operands_init 2 none :: zq_W
abbrev zy_Operands_addConstant : MethodName := ⟨"PlainSteps$Operands", "addConstant", "(J)I"⟩
abbrev zb_Operands_addConstant : ByteArray := prog_6_method_2_code
abbrev zs_Operands_addConstant : List Cond := .code zy_Operands_addConstant zb_Operands_addConstant 3 (some .int) :: zq_W
abbrev zy_Operands_addField : MethodName := ⟨"PlainSteps$Operands", "addField", "(IIZ)I"⟩
abbrev zb_Operands_addField : ByteArray := prog_6_method_3_code
abbrev zs_Operands_addField : List Cond := .code zy_Operands_addField zb_Operands_addField 4 (some .int) :: zq_W
abbrev zy_Operands_has : MethodName := ⟨"PlainSteps$Operands", "has", "(I)Z"⟩
abbrev zb_Operands_has : ByteArray := prog_6_method_4_code
abbrev zs_Operands_has : List Cond := .code zy_Operands_has zb_Operands_has 2 (some .boolean) :: zq_W
abbrev zy_Operands_read : MethodName := ⟨"PlainSteps$Operands", "read", "(II)J"⟩
abbrev zb_Operands_read : ByteArray := prog_6_method_5_code
abbrev zs_Operands_read : List Cond := .code zy_Operands_read zb_Operands_read 3 (some .long) :: zq_W
abbrev zy_Operands_readField : MethodName := ⟨"PlainSteps$Operands", "readField", "(II)J"⟩
abbrev zb_Operands_readField : ByteArray := prog_6_method_6_code
abbrev zs_Operands_readField : List Cond := .code zy_Operands_readField zb_Operands_readField 7 (some .long) :: zq_W
abbrev zy_Operands_isMarked : MethodName := ⟨"PlainSteps$Operands", "isMarked", "(I)Z"⟩
abbrev zb_Operands_isMarked : ByteArray := prog_6_method_7_code
abbrev zs_Operands_isMarked : List Cond := .code zy_Operands_isMarked zb_Operands_isMarked 2 (some .boolean) :: zq_W
abbrev zy_Program_init : MethodName := ⟨"PlainSteps$Program", "<init>", "()V"⟩
abbrev zb_Program_init : ByteArray := prog_7_method_1_code
abbrev zs_Program_init : List Cond := .code zy_Program_init zb_Program_init 1 none :: zq_W
abbrev zy_Program_addTransfer : MethodName := ⟨"PlainSteps$Program", "addTransfer", "(IIII)I"⟩
abbrev zb_Program_addTransfer : ByteArray := prog_7_method_2_code
abbrev zs_Program_addTransfer : List Cond := .code zy_Program_addTransfer zb_Program_addTransfer 5 (some .int) :: zq_W
abbrev zy_Program_addInstruction : MethodName := ⟨"PlainSteps$Program", "addInstruction", "(III)I"⟩
abbrev zb_Program_addInstruction : ByteArray := prog_7_method_3_code
abbrev zs_Program_addInstruction : List Cond := .code zy_Program_addInstruction zb_Program_addInstruction 4 (some .int) :: zq_W
abbrev zy_Program_find : MethodName := ⟨"PlainSteps$Program", "find", "(I)I"⟩
abbrev zb_Program_find : ByteArray := prog_7_method_4_code
abbrev zs_Program_find : List Cond := .code zy_Program_find zb_Program_find 3 (some .int) :: zq_W
abbrev zy_Program_is : MethodName := ⟨"PlainSteps$Program", "is", "(II)Z"⟩
abbrev zb_Program_is : ByteArray := prog_7_method_5_code
abbrev zs_Program_is : List Cond := .code zy_Program_is zb_Program_is 3 (some .boolean) :: zq_W
abbrev zy_Kept_init : MethodName := ⟨"PlainSteps$Kept", "<init>", "()V"⟩
abbrev zb_Kept_init : ByteArray := prog_3_method_1_code
abbrev zs_Kept_init : List Cond := .code zy_Kept_init zb_Kept_init 1 none :: zq_W
abbrev zy_Kept_isFull : MethodName := ⟨"PlainSteps$Kept", "isFull", "()Z"⟩
abbrev zb_Kept_isFull : ByteArray := prog_3_method_2_code
abbrev zs_Kept_isFull : List Cond := .code zy_Kept_isFull zb_Kept_isFull 1 (some .boolean) :: zq_W
abbrev zy_Kept_keep : MethodName := ⟨"PlainSteps$Kept", "keep", "(II)V"⟩
abbrev zb_Kept_keep : ByteArray := prog_3_method_3_code
abbrev zs_Kept_keep : List Cond := .code zy_Kept_keep zb_Kept_keep 3 none :: zq_W
abbrev zy_Kept_goBack : MethodName := ⟨"PlainSteps$Kept", "goBack", "()I"⟩
abbrev zb_Kept_goBack : ByteArray := prog_3_method_4_code
abbrev zs_Kept_goBack : List Cond := .code zy_Kept_goBack zb_Kept_goBack 1 (some .int) :: zq_W
abbrev zy_Kept_restore : MethodName := ⟨"PlainSteps$Kept", "restore", "(II)V"⟩
abbrev zb_Kept_restore : ByteArray := prog_3_method_5_code
abbrev zs_Kept_restore : List Cond := .code zy_Kept_restore zb_Kept_restore 3 none :: zq_W
abbrev zy_Lines_init : MethodName := ⟨"PlainSteps$Lines", "<init>", "()V"⟩
abbrev zb_Lines_init : ByteArray := prog_4_method_1_code
abbrev zs_Lines_init : List Cond := .code zy_Lines_init zb_Lines_init 2 none :: zq_W
abbrev zy_Lines_has : MethodName := ⟨"PlainSteps$Lines", "has", "(I)Z"⟩
abbrev zb_Lines_has : ByteArray := prog_4_method_2_code
abbrev zs_Lines_has : List Cond := .code zy_Lines_has zb_Lines_has 2 (some .boolean) :: zq_W
abbrev zy_Lines_turn : MethodName := ⟨"PlainSteps$Lines", "turn", "(IZ)Z"⟩
abbrev zb_Lines_turn : ByteArray := prog_4_method_3_code
abbrev zs_Lines_turn : List Cond := .code zy_Lines_turn zb_Lines_turn 4 (some .boolean) :: zq_W
abbrev zy_Lines_giveRank : MethodName := ⟨"PlainSteps$Lines", "giveRank", "(II)I"⟩
abbrev zb_Lines_giveRank : ByteArray := prog_4_method_4_code
abbrev zs_Lines_giveRank : List Cond := .code zy_Lines_giveRank zb_Lines_giveRank 4 (some .int) :: zq_W
abbrev zy_Lines_rankOf : MethodName := ⟨"PlainSteps$Lines", "rankOf", "(I)I"⟩
abbrev zb_Lines_rankOf : ByteArray := prog_4_method_5_code
abbrev zs_Lines_rankOf : List Cond := .code zy_Lines_rankOf zb_Lines_rankOf 2 (some .int) :: zq_W
abbrev zy_Lines_mostUrgent : MethodName := ⟨"PlainSteps$Lines", "mostUrgent", "(I)I"⟩
abbrev zb_Lines_mostUrgent : ByteArray := prog_4_method_6_code
abbrev zs_Lines_mostUrgent : List Cond := .code zy_Lines_mostUrgent zb_Lines_mostUrgent 5 (some .int) :: zq_W
abbrev zy_Writes_init : MethodName := ⟨"PlainSteps$Writes", "<init>", "(LPlainSteps$Registers;LPlainSteps$Bytes;)V"⟩
abbrev zb_Writes_init : ByteArray := prog_10_method_1_code
abbrev zs_Writes_init : List Cond := .code zy_Writes_init zb_Writes_init 3 none :: zq_W
abbrev zy_Writes_clear : MethodName := ⟨"PlainSteps$Writes", "clear", "()V"⟩
abbrev zb_Writes_clear : ByteArray := prog_10_method_2_code
abbrev zs_Writes_clear : List Cond := .code zy_Writes_clear zb_Writes_clear 1 none :: zq_W
abbrev zy_Writes_note : MethodName := ⟨"PlainSteps$Writes", "note", "(IIJ)V"⟩
abbrev zb_Writes_note : ByteArray := prog_10_method_3_code
abbrev zs_Writes_note : List Cond := .code zy_Writes_note zb_Writes_note 5 none :: zq_W
abbrev zy_Writes_noteReverse : MethodName := ⟨"PlainSteps$Writes", "noteReverse", "(II)V"⟩
abbrev zb_Writes_noteReverse : ByteArray := prog_10_method_4_code
abbrev zs_Writes_noteReverse : List Cond := .code zy_Writes_noteReverse zb_Writes_noteReverse 3 none :: zq_W
abbrev zy_Writes_perform : MethodName := ⟨"PlainSteps$Writes", "perform", "(IIJ)V"⟩
abbrev zb_Writes_perform : ByteArray := prog_10_method_5_code
abbrev zs_Writes_perform : List Cond := .code zy_Writes_perform zb_Writes_perform 5 none :: zq_W
abbrev zy_Writes_performInOrder : MethodName := ⟨"PlainSteps$Writes", "performInOrder", "()V"⟩
abbrev zb_Writes_performInOrder : ByteArray := prog_10_method_6_code
abbrev zs_Writes_performInOrder : List Cond := .code zy_Writes_performInOrder zb_Writes_performInOrder 2 none :: zq_W
abbrev zy_Writes_performBackwards : MethodName := ⟨"PlainSteps$Writes", "performBackwards", "()V"⟩
abbrev zb_Writes_performBackwards : ByteArray := prog_10_method_7_code
abbrev zs_Writes_performBackwards : List Cond := .code zy_Writes_performBackwards zb_Writes_performBackwards 2 none :: zq_W
abbrev zy_Work_init : MethodName := ⟨"PlainSteps$Work", "<init>", "(LPlainSteps$Registers;LPlainSteps$Bytes;LPlainSteps$Operands;LPlainSteps$Program;LPlainSteps$Kept;[I)V"⟩
abbrev zb_Work_init : ByteArray := prog_9_method_1_code
abbrev zs_Work_init : List Cond := .code zy_Work_init zb_Work_init 7 none :: zq_W
abbrev zy_Work_carryOut : MethodName := ⟨"PlainSteps$Work", "carryOut", "(II)I"⟩
abbrev zb_Work_carryOut : ByteArray := prog_9_method_2_code
abbrev zs_Work_carryOut : List Cond := .code zy_Work_carryOut zb_Work_carryOut 7 (some .int) :: zq_W
abbrev zy_Work_prepare : MethodName := ⟨"PlainSteps$Work", "prepare", "(II)V"⟩
abbrev zb_Work_prepare : ByteArray := prog_9_method_3_code
abbrev zs_Work_prepare : List Cond := .code zy_Work_prepare zb_Work_prepare 3 none :: zq_W
abbrev zy_Work_writeWhatWaits : MethodName := ⟨"PlainSteps$Work", "writeWhatWaits", "()V"⟩
abbrev zb_Work_writeWhatWaits : ByteArray := prog_9_method_4_code
abbrev zs_Work_writeWhatWaits : List Cond := .code zy_Work_writeWhatWaits zb_Work_writeWhatWaits 1 none :: zq_W
abbrev zy_Work_takeBack : MethodName := ⟨"PlainSteps$Work", "takeBack", "()V"⟩
abbrev zb_Work_takeBack : ByteArray := prog_9_method_5_code
abbrev zs_Work_takeBack : List Cond := .code zy_Work_takeBack zb_Work_takeBack 1 none :: zq_W
abbrev zy_Work_doTransfer : MethodName := ⟨"PlainSteps$Work", "doTransfer", "(I)I"⟩
abbrev zb_Work_doTransfer : ByteArray := prog_9_method_6_code
abbrev zs_Work_doTransfer : List Cond := .code zy_Work_doTransfer zb_Work_doTransfer 10 (some .int) :: zq_W
abbrev zy_Work_divide : MethodName := ⟨"PlainSteps$Work", "divide", "(IJJII)I"⟩
abbrev zb_Work_divide : ByteArray := prog_9_method_7_code
abbrev zs_Work_divide : List Cond := .code zy_Work_divide zb_Work_divide 10 (some .int) :: zq_W
abbrev zy_Work_load : MethodName := ⟨"PlainSteps$Work", "load", "(ZJII)I"⟩
abbrev zb_Work_load : ByteArray := prog_9_method_8_code
abbrev zs_Work_load : List Cond := .code zy_Work_load zb_Work_load 7 (some .int) :: zq_W
abbrev zy_Work_store : MethodName := ⟨"PlainSteps$Work", "store", "(ZJJ)I"⟩
abbrev zb_Work_store : ByteArray := prog_9_method_9_code
abbrev zs_Work_store : List Cond := .code zy_Work_store zb_Work_store 6 (some .int) :: zq_W
abbrev zy_Work_goBack : MethodName := ⟨"PlainSteps$Work", "goBack", "()I"⟩
abbrev zb_Work_goBack : ByteArray := prog_9_method_10_code
abbrev zs_Work_goBack : List Cond := .code zy_Work_goBack zb_Work_goBack 2 (some .int) :: zq_W
abbrev zy_Work_write : MethodName := ⟨"PlainSteps$Work", "write", "(IIJ)V"⟩
abbrev zb_Work_write : ByteArray := prog_9_method_11_code
abbrev zs_Work_write : List Cond := .code zy_Work_write zb_Work_write 5 none :: zq_W
abbrev zy_Work_result : MethodName := ⟨"PlainSteps$Work", "result", "(IJJ)J"⟩
abbrev zb_Work_result : ByteArray := prog_9_method_12_code
abbrev zs_Work_result : List Cond := .code zy_Work_result zb_Work_result 5 (some .long) :: zq_W
abbrev zy_Work_isBelow : MethodName := ⟨"PlainSteps$Work", "isBelow", "(JJ)Z"⟩
abbrev zb_Work_isBelow : ByteArray := prog_9_method_13_code
abbrev zs_Work_isBelow : List Cond := .code zy_Work_isBelow zb_Work_isBelow 4 (some .boolean) :: zq_W
abbrev zy_Work_quotient : MethodName := ⟨"PlainSteps$Work", "quotient", "(JJ)J"⟩
abbrev zb_Work_quotient : ByteArray := prog_9_method_14_code
abbrev zs_Work_quotient : List Cond := .code zy_Work_quotient zb_Work_quotient 6 (some .long) :: zq_W
abbrev zy_Machine_init : MethodName := ⟨"PlainSteps$Machine", "<init>", "(LPlainSteps$Registers;LPlainSteps$Bytes;LPlainSteps$Program;LPlainSteps$Kept;LPlainSteps$Lines;LPlainSteps$Work;[I)V"⟩
abbrev zb_Machine_init : ByteArray := prog_5_method_1_code
abbrev zs_Machine_init : List Cond := .code zy_Machine_init zb_Machine_init 8 none :: zq_W
abbrev zy_Machine_loseWaiting : MethodName := ⟨"PlainSteps$Machine", "loseWaiting", "()V"⟩
abbrev zb_Machine_loseWaiting : ByteArray := prog_5_method_2_code
abbrev zs_Machine_loseWaiting : List Cond := .code zy_Machine_loseWaiting zb_Machine_loseWaiting 1 none :: zq_W
abbrev zy_Machine_takeStep : MethodName := ⟨"PlainSteps$Machine", "takeStep", "()V"⟩
abbrev zb_Machine_takeStep : ByteArray := prog_5_method_3_code
abbrev zs_Machine_takeStep : List Cond := .code zy_Machine_takeStep zb_Machine_takeStep 6 none :: zq_W
abbrev zy_Machine_interruptBy : MethodName := ⟨"PlainSteps$Machine", "interruptBy", "(I)V"⟩
abbrev zb_Machine_interruptBy : ByteArray := prog_5_method_4_code
abbrev zs_Machine_interruptBy : List Cond := .code zy_Machine_interruptBy zb_Machine_interruptBy 2 none :: zq_W
abbrev zy_Machine_settlePlace : MethodName := ⟨"PlainSteps$Machine", "settlePlace", "(IZ)V"⟩
abbrev zb_Machine_settlePlace : ByteArray := prog_5_method_5_code
abbrev zs_Machine_settlePlace : List Cond := .code zy_Machine_settlePlace zb_Machine_settlePlace 4 none :: zq_W
abbrev zy_Machine_failWith : MethodName := ⟨"PlainSteps$Machine", "failWith", "(II)V"⟩
abbrev zb_Machine_failWith : ByteArray := prog_5_method_6_code
abbrev zs_Machine_failWith : List Cond := .code zy_Machine_failWith zb_Machine_failWith 3 none :: zq_W
abbrev zy_PS_init : MethodName := ⟨"PlainSteps", "<init>", "()V"⟩
abbrev zb_PS_init : ByteArray := prog_1_method_1_code
abbrev zs_PS_init : List Cond := .code zy_PS_init zb_PS_init 2 none :: zq_W
abbrev zy_PS_register : MethodName := ⟨"PlainSteps", "register", "(I)I"⟩
abbrev zb_PS_register : ByteArray := prog_1_method_2_code
abbrev zs_PS_register : List Cond := .code zy_PS_register zb_PS_register 2 (some .int) :: zq_W
abbrev zy_PS_constant : MethodName := ⟨"PlainSteps", "constant", "(J)I"⟩
abbrev zb_PS_constant : ByteArray := prog_1_method_3_code
abbrev zs_PS_constant : List Cond := .code zy_PS_constant zb_PS_constant 3 (some .int) :: zq_W
abbrev zy_PS_field : MethodName := ⟨"PlainSteps", "field", "(IIZ)I"⟩
abbrev zb_PS_field : ByteArray := prog_1_method_4_code
abbrev zs_PS_field : List Cond := .code zy_PS_field zb_PS_field 4 (some .int) :: zq_W
abbrev zy_PS_transfer : MethodName := ⟨"PlainSteps", "transfer", "(IIII)I"⟩
abbrev zb_PS_transfer : ByteArray := prog_1_method_5_code
abbrev zs_PS_transfer : List Cond := .code zy_PS_transfer zb_PS_transfer 5 (some .int) :: zq_W
abbrev zy_PS_instruction : MethodName := ⟨"PlainSteps", "instruction", "(III)I"⟩
abbrev zb_PS_instruction : ByteArray := prog_1_method_6_code
abbrev zs_PS_instruction : List Cond := .code zy_PS_instruction zb_PS_instruction 4 (some .int) :: zq_W
abbrev zy_PS_memory : MethodName := ⟨"PlainSteps", "memory", "(II)I"⟩
abbrev zb_PS_memory : ByteArray := prog_1_method_7_code
abbrev zs_PS_memory : List Cond := .code zy_PS_memory zb_PS_memory 4 (some .int) :: zq_W
abbrev zy_PS_byteAt : MethodName := ⟨"PlainSteps", "byteAt", "(I)I"⟩
abbrev zb_PS_byteAt : ByteArray := prog_1_method_8_code
abbrev zs_PS_byteAt : List Cond := .code zy_PS_byteAt zb_PS_byteAt 2 (some .int) :: zq_W
abbrev zy_PS_step : MethodName := ⟨"PlainSteps", "step", "(I)I"⟩
abbrev zb_PS_step : ByteArray := prog_1_method_9_code
abbrev zs_PS_step : List Cond := .code zy_PS_step zb_PS_step 3 (some .int) :: zq_W
abbrev zy_PS_set : MethodName := ⟨"PlainSteps", "set", "(IJ)J"⟩
abbrev zb_PS_set : ByteArray := prog_1_method_10_code
abbrev zs_PS_set : List Cond := .code zy_PS_set zb_PS_set 6 (some .long) :: zq_W
abbrev zy_PS_get : MethodName := ⟨"PlainSteps", "get", "(I)J"⟩
abbrev zb_PS_get : ByteArray := prog_1_method_11_code
abbrev zs_PS_get : List Cond := .code zy_PS_get zb_PS_get 2 (some .long) :: zq_W
abbrev zy_PS_mark : MethodName := ⟨"PlainSteps", "mark", "(I)Z"⟩
abbrev zb_PS_mark : ByteArray := prog_1_method_12_code
abbrev zs_PS_mark : List Cond := .code zy_PS_mark zb_PS_mark 2 (some .boolean) :: zq_W
abbrev zy_PS_line : MethodName := ⟨"PlainSteps", "line", "(IZ)Z"⟩
abbrev zb_PS_line : ByteArray := prog_1_method_13_code
abbrev zs_PS_line : List Cond := .code zy_PS_line zb_PS_line 3 (some .boolean) :: zq_W
abbrev zy_PS_enable : MethodName := ⟨"PlainSteps", "enable", "(II)I"⟩
abbrev zb_PS_enable : ByteArray := prog_1_method_14_code
abbrev zs_PS_enable : List Cond := .code zy_PS_enable zb_PS_enable 3 (some .int) :: zq_W
abbrev zy_PS_fault : MethodName := ⟨"PlainSteps", "fault", "(I)I"⟩
abbrev zb_PS_fault : ByteArray := prog_1_method_15_code
abbrev zs_PS_fault : List Cond := .code zy_PS_fault zb_PS_fault 2 (some .int) :: zq_W
abbrev zy_PS_halted : MethodName := ⟨"PlainSteps", "halted", "()I"⟩
abbrev zb_PS_halted : ByteArray := prog_1_method_16_code
abbrev zs_PS_halted : List Cond := .code zy_PS_halted zb_PS_halted 1 (some .int) :: zq_W
abbrev zy_PS_counter : MethodName := ⟨"PlainSteps", "counter", "(I)I"⟩
abbrev zb_PS_counter : ByteArray := prog_1_method_17_code
abbrev zs_PS_counter : List Cond := .code zy_PS_counter zb_PS_counter 2 (some .int) :: zq_W
abbrev zy_M_init : MethodName := ⟨"PlainStepsModel", "<init>", "()V"⟩
abbrev zb_M_init : ByteArray := prog_12_method_1_code
abbrev zs_M_init : List Cond := .code zy_M_init zb_M_init 2 none :: zq_W
abbrev zy_M_thrown : MethodName := ⟨"PlainStepsModel", "thrown", "()I"⟩
abbrev zb_M_thrown : ByteArray := prog_12_method_2_code
abbrev zs_M_thrown : List Cond := .code zy_M_thrown zb_M_thrown 1 (some .int) :: zq_W
abbrev zy_M_in : MethodName := ⟨"PlainStepsModel", "in", "(JJJ)Z"⟩
abbrev zb_M_in : ByteArray := prog_12_method_3_code
abbrev zs_M_in : List Cond := .code zy_M_in zb_M_in 6 (some .boolean) :: zq_W
abbrev zy_M_goes : MethodName := ⟨"PlainStepsModel", "goes", "(ZZ)Z"⟩
abbrev zb_M_goes : ByteArray := prog_12_method_4_code
abbrev zs_M_goes : List Cond := .code zy_M_goes zb_M_goes 3 (some .boolean) :: zq_W
abbrev zy_M_cut : MethodName := ⟨"PlainStepsModel", "cut", "(IJ)J"⟩
abbrev zb_M_cut : ByteArray := prog_12_method_5_code
abbrev zs_M_cut : List Cond := .code zy_M_cut zb_M_cut 4 (some .long) :: zq_W
abbrev zy_M_register : MethodName := ⟨"PlainStepsModel", "register", "(I)I"⟩
abbrev zb_M_register : ByteArray := prog_12_method_6_code
abbrev zs_M_register : List Cond := .code zy_M_register zb_M_register 2 (some .int) :: zq_W
abbrev zy_M_constant : MethodName := ⟨"PlainStepsModel", "constant", "(J)I"⟩
abbrev zb_M_constant : ByteArray := prog_12_method_7_code
abbrev zs_M_constant : List Cond := .code zy_M_constant zb_M_constant 3 (some .int) :: zq_W
abbrev zy_M_field : MethodName := ⟨"PlainStepsModel", "field", "(IIZ)I"⟩
abbrev zb_M_field : ByteArray := prog_12_method_8_code
abbrev zs_M_field : List Cond := .code zy_M_field zb_M_field 4 (some .int) :: zq_W
abbrev zy_M_isOperand : MethodName := ⟨"PlainStepsModel", "isOperand", "(I)Z"⟩
abbrev zb_M_isOperand : ByteArray := prog_12_method_9_code
abbrev zs_M_isOperand : List Cond := .code zy_M_isOperand zb_M_isOperand 2 (some .boolean) :: zq_W
abbrev zy_M_transfer : MethodName := ⟨"PlainStepsModel", "transfer", "(IIII)I"⟩
abbrev zb_M_transfer : ByteArray := prog_12_method_10_code
abbrev zs_M_transfer : List Cond := .code zy_M_transfer zb_M_transfer 5 (some .int) :: zq_W
abbrev zy_M_instruction : MethodName := ⟨"PlainStepsModel", "instruction", "(III)I"⟩
abbrev zb_M_instruction : ByteArray := prog_12_method_11_code
abbrev zs_M_instruction : List Cond := .code zy_M_instruction zb_M_instruction 4 (some .int) :: zq_W
abbrev zy_M_memory : MethodName := ⟨"PlainStepsModel", "memory", "(II)I"⟩
abbrev zb_M_memory : ByteArray := prog_12_method_12_code
abbrev zs_M_memory : List Cond := .code zy_M_memory zb_M_memory 4 (some .int) :: zq_W
abbrev zy_M_byteAt : MethodName := ⟨"PlainStepsModel", "byteAt", "(I)I"⟩
abbrev zb_M_byteAt : ByteArray := prog_12_method_13_code
abbrev zs_M_byteAt : List Cond := .code zy_M_byteAt zb_M_byteAt 2 (some .int) :: zq_W
abbrev zy_M_keep : MethodName := ⟨"PlainStepsModel", "keep", "(III)Z"⟩
abbrev zb_M_keep : ByteArray := prog_12_method_14_code
abbrev zs_M_keep : List Cond := .code zy_M_keep zb_M_keep 4 (some .boolean) :: zq_W
abbrev zy_M_takeFault : MethodName := ⟨"PlainStepsModel", "takeFault", "(I)V"⟩
abbrev zb_M_takeFault : ByteArray := prog_12_method_15_code
abbrev zs_M_takeFault : List Cond := .code zy_M_takeFault zb_M_takeFault 2 none :: zq_W
abbrev zy_M_waitingLine : MethodName := ⟨"PlainStepsModel", "waitingLine", "()I"⟩
abbrev zb_M_waitingLine : ByteArray := prog_12_method_16_code
abbrev zs_M_waitingLine : List Cond := .code zy_M_waitingLine zb_M_waitingLine 3 (some .int) :: zq_W
abbrev zy_M_isParallel : MethodName := ⟨"PlainStepsModel", "isParallel", "(I)Z"⟩
abbrev zb_M_isParallel : ByteArray := prog_12_method_17_code
abbrev zs_M_isParallel : List Cond := .code zy_M_isParallel zb_M_isParallel 2 (some .boolean) :: zq_W
abbrev zy_M_operand : MethodName := ⟨"PlainStepsModel", "operand", "(II)J"⟩
abbrev zb_M_operand : ByteArray := prog_12_method_18_code
abbrev zs_M_operand : List Cond := .code zy_M_operand zb_M_operand 7 (some .long) :: zq_W
abbrev zy_M_isMarked : MethodName := ⟨"PlainStepsModel", "isMarked", "(II)Z"⟩
abbrev zb_M_isMarked : ByteArray := prog_12_method_19_code
abbrev zs_M_isMarked : List Cond := .code zy_M_isMarked zb_M_isMarked 3 (some .boolean) :: zq_W
abbrev zy_M_setRegister : MethodName := ⟨"PlainStepsModel", "setRegister", "(IJZ)V"⟩
abbrev zb_M_setRegister : ByteArray := prog_12_method_20_code
abbrev zs_M_setRegister : List Cond := .code zy_M_setRegister zb_M_setRegister 5 none :: zq_W
abbrev zy_M_setMemory : MethodName := ⟨"PlainStepsModel", "setMemory", "(IJI)V"⟩
abbrev zb_M_setMemory : ByteArray := prog_12_method_21_code
abbrev zs_M_setMemory : List Cond := .code zy_M_setMemory zb_M_setMemory 5 none :: zq_W
abbrev zy_M_later : MethodName := ⟨"PlainStepsModel", "later", "(IIJZ)V"⟩
abbrev zb_M_later : ByteArray := prog_12_method_22_code
abbrev zs_M_later : List Cond := .code zy_M_later zb_M_later 6 none :: zq_W
abbrev zy_M_result : MethodName := ⟨"PlainStepsModel", "result", "(IIJZ)V"⟩
abbrev zb_M_result : ByteArray := prog_12_method_23_code
abbrev zs_M_result : List Cond := .code zy_M_result zb_M_result 8 none :: zq_W
abbrev zy_M_markOnly : MethodName := ⟨"PlainStepsModel", "markOnly", "(II)V"⟩
abbrev zb_M_markOnly : ByteArray := prog_12_method_24_code
abbrev zs_M_markOnly : List Cond := .code zy_M_markOnly zb_M_markOnly 3 none :: zq_W
abbrev zy_M_writeAll : MethodName := ⟨"PlainStepsModel", "writeAll", "()V"⟩
abbrev zb_M_writeAll : ByteArray := prog_12_method_25_code
abbrev zs_M_writeAll : List Cond := .code zy_M_writeAll zb_M_writeAll 3 none :: zq_W
abbrev zy_M_isLess : MethodName := ⟨"PlainStepsModel", "isLess", "(JJ)Z"⟩
abbrev zb_M_isLess : ByteArray := prog_12_method_26_code
abbrev zs_M_isLess : List Cond := .code zy_M_isLess zb_M_isLess 4 (some .boolean) :: zq_W
abbrev zy_M_quotient : MethodName := ⟨"PlainStepsModel", "quotient", "(JJ)J"⟩
abbrev zb_M_quotient : ByteArray := prog_12_method_27_code
abbrev zs_M_quotient : List Cond := .code zy_M_quotient zb_M_quotient 8 (some .long) :: zq_W
abbrev zy_M_simple : MethodName := ⟨"PlainStepsModel", "simple", "(IJJ)J"⟩
abbrev zb_M_simple : ByteArray := prog_12_method_28_code
abbrev zs_M_simple : List Cond := .code zy_M_simple zb_M_simple 5 (some .long) :: zq_W
abbrev zy_M_isThere : MethodName := ⟨"PlainStepsModel", "isThere", "(JI)Z"⟩
abbrev zb_M_isThere : ByteArray := prog_12_method_29_code
abbrev zs_M_isThere : List Cond := .code zy_M_isThere zb_M_isThere 4 (some .boolean) :: zq_W
abbrev zy_M_compute : MethodName := ⟨"PlainStepsModel", "compute", "(IIJJ)V"⟩
abbrev zb_M_compute : ByteArray := prog_12_method_30_code
abbrev zs_M_compute : List Cond := .code zy_M_compute zb_M_compute 10 none :: zq_W
abbrev zy_M_store : MethodName := ⟨"PlainStepsModel", "store", "(IJJI)V"⟩
abbrev zb_M_store : ByteArray := prog_12_method_31_code
abbrev zs_M_store : List Cond := .code zy_M_store zb_M_store 7 none :: zq_W
abbrev zy_M_back : MethodName := ⟨"PlainStepsModel", "back", "()V"⟩
abbrev zb_M_back : ByteArray := prog_12_method_32_code
abbrev zs_M_back : List Cond := .code zy_M_back zb_M_back 1 none :: zq_W
abbrev zy_M_doTransfer : MethodName := ⟨"PlainStepsModel", "doTransfer", "(II)V"⟩
abbrev zb_M_doTransfer : ByteArray := prog_12_method_33_code
abbrev zs_M_doTransfer : List Cond := .code zy_M_doTransfer zb_M_doTransfer 7 none :: zq_W
abbrev zy_M_save : MethodName := ⟨"PlainStepsModel", "save", "()V"⟩
abbrev zb_M_save : ByteArray := prog_12_method_34_code
abbrev zs_M_save : List Cond := .code zy_M_save zb_M_save 2 none :: zq_W
abbrev zy_M_restore : MethodName := ⟨"PlainStepsModel", "restore", "()V"⟩
abbrev zb_M_restore : ByteArray := prog_12_method_35_code
abbrev zs_M_restore : List Cond := .code zy_M_restore zb_M_restore 2 none :: zq_W
abbrev zy_M_find : MethodName := ⟨"PlainStepsModel", "find", "()I"⟩
abbrev zb_M_find : ByteArray := prog_12_method_36_code
abbrev zs_M_find : List Cond := .code zy_M_find zb_M_find 2 (some .int) :: zq_W
abbrev zy_M_doAll : MethodName := ⟨"PlainStepsModel", "doAll", "(I)V"⟩
abbrev zb_M_doAll : ByteArray := prog_12_method_37_code
abbrev zs_M_doAll : List Cond := .code zy_M_doAll zb_M_doAll 3 none :: zq_W
abbrev zy_M_comePlace : MethodName := ⟨"PlainStepsModel", "comePlace", "(I)V"⟩
abbrev zb_M_comePlace : ByteArray := prog_12_method_38_code
abbrev zs_M_comePlace : List Cond := .code zy_M_comePlace zb_M_comePlace 5 none :: zq_W
abbrev zy_M_doInstruction : MethodName := ⟨"PlainStepsModel", "doInstruction", "()V"⟩
abbrev zb_M_doInstruction : ByteArray := prog_12_method_39_code
abbrev zs_M_doInstruction : List Cond := .code zy_M_doInstruction zb_M_doInstruction 3 none :: zq_W
abbrev zy_M_stepOnce : MethodName := ⟨"PlainStepsModel", "stepOnce", "()V"⟩
abbrev zb_M_stepOnce : ByteArray := prog_12_method_40_code
abbrev zs_M_stepOnce : List Cond := .code zy_M_stepOnce zb_M_stepOnce 2 none :: zq_W
abbrev zy_M_step : MethodName := ⟨"PlainStepsModel", "step", "(I)I"⟩
abbrev zb_M_step : ByteArray := prog_12_method_41_code
abbrev zs_M_step : List Cond := .code zy_M_step zb_M_step 3 (some .int) :: zq_W
abbrev zy_M_isRegister : MethodName := ⟨"PlainStepsModel", "isRegister", "(I)Z"⟩
abbrev zb_M_isRegister : ByteArray := prog_12_method_42_code
abbrev zs_M_isRegister : List Cond := .code zy_M_isRegister zb_M_isRegister 2 (some .boolean) :: zq_W
abbrev zy_M_set : MethodName := ⟨"PlainStepsModel", "set", "(IJ)J"⟩
abbrev zb_M_set : ByteArray := prog_12_method_43_code
abbrev zs_M_set : List Cond := .code zy_M_set zb_M_set 6 (some .long) :: zq_W
abbrev zy_M_get : MethodName := ⟨"PlainStepsModel", "get", "(I)J"⟩
abbrev zb_M_get : ByteArray := prog_12_method_44_code
abbrev zs_M_get : List Cond := .code zy_M_get zb_M_get 2 (some .long) :: zq_W
abbrev zy_M_mark : MethodName := ⟨"PlainStepsModel", "mark", "(I)Z"⟩
abbrev zb_M_mark : ByteArray := prog_12_method_45_code
abbrev zs_M_mark : List Cond := .code zy_M_mark zb_M_mark 2 (some .boolean) :: zq_W
abbrev zy_M_line : MethodName := ⟨"PlainStepsModel", "line", "(IZ)Z"⟩
abbrev zb_M_line : ByteArray := prog_12_method_46_code
abbrev zs_M_line : List Cond := .code zy_M_line zb_M_line 4 (some .boolean) :: zq_W
abbrev zy_M_enable : MethodName := ⟨"PlainStepsModel", "enable", "(II)I"⟩
abbrev zb_M_enable : ByteArray := prog_12_method_47_code
abbrev zs_M_enable : List Cond := .code zy_M_enable zb_M_enable 4 (some .int) :: zq_W
abbrev zy_M_fault : MethodName := ⟨"PlainStepsModel", "fault", "(I)I"⟩
abbrev zb_M_fault : ByteArray := prog_12_method_48_code
abbrev zs_M_fault : List Cond := .code zy_M_fault zb_M_fault 2 (some .int) :: zq_W
abbrev zy_M_halted : MethodName := ⟨"PlainStepsModel", "halted", "()I"⟩
abbrev zb_M_halted : ByteArray := prog_12_method_49_code
abbrev zs_M_halted : List Cond := .code zy_M_halted zb_M_halted 1 (some .int) :: zq_W
abbrev zy_M_counter : MethodName := ⟨"PlainStepsModel", "counter", "(I)I"⟩
abbrev zb_M_counter : ByteArray := prog_12_method_50_code
abbrev zs_M_counter : List Cond := .code zy_M_counter zb_M_counter 2 (some .int) :: zq_W
abbrev zy_L_register : MethodName := ⟨"PlainStepsLaw", "register", "(LPlainSteps;I[J)I"⟩
abbrev zb_L_register : ByteArray := method_3_code
abbrev zy_L_constant : MethodName := ⟨"PlainStepsLaw", "constant", "(LPlainSteps;J[J)I"⟩
abbrev zb_L_constant : ByteArray := method_4_code
abbrev zy_L_field : MethodName := ⟨"PlainStepsLaw", "field", "(LPlainSteps;IIZ[J)I"⟩
abbrev zb_L_field : ByteArray := method_5_code
abbrev zy_L_transfer : MethodName := ⟨"PlainStepsLaw", "transfer", "(LPlainSteps;IIII[J)I"⟩
abbrev zb_L_transfer : ByteArray := method_6_code
abbrev zy_L_instruction : MethodName := ⟨"PlainStepsLaw", "instruction", "(LPlainSteps;III[J)I"⟩
abbrev zb_L_instruction : ByteArray := method_7_code
abbrev zy_L_memory : MethodName := ⟨"PlainStepsLaw", "memory", "(LPlainSteps;II[J)I"⟩
abbrev zb_L_memory : ByteArray := method_8_code
abbrev zy_L_byteAt : MethodName := ⟨"PlainStepsLaw", "byteAt", "(LPlainSteps;I[J)I"⟩
abbrev zb_L_byteAt : ByteArray := method_9_code
abbrev zy_L_step : MethodName := ⟨"PlainStepsLaw", "step", "(LPlainSteps;I[J)I"⟩
abbrev zb_L_step : ByteArray := method_10_code
abbrev zy_L_set : MethodName := ⟨"PlainStepsLaw", "set", "(LPlainSteps;IJ[J)I"⟩
abbrev zb_L_set : ByteArray := method_11_code
abbrev zy_L_get : MethodName := ⟨"PlainStepsLaw", "get", "(LPlainSteps;I[J)I"⟩
abbrev zb_L_get : ByteArray := method_12_code
abbrev zy_L_mark : MethodName := ⟨"PlainStepsLaw", "mark", "(LPlainSteps;I[J)I"⟩
abbrev zb_L_mark : ByteArray := method_13_code
abbrev zy_L_line : MethodName := ⟨"PlainStepsLaw", "line", "(LPlainSteps;IZ[J)I"⟩
abbrev zb_L_line : ByteArray := method_14_code
abbrev zy_L_enable : MethodName := ⟨"PlainStepsLaw", "enable", "(LPlainSteps;II[J)I"⟩
abbrev zb_L_enable : ByteArray := method_15_code
abbrev zy_L_fault : MethodName := ⟨"PlainStepsLaw", "fault", "(LPlainSteps;I[J)I"⟩
abbrev zb_L_fault : ByteArray := method_16_code
abbrev zy_L_counter : MethodName := ⟨"PlainStepsLaw", "counter", "(LPlainSteps;I[J)I"⟩
abbrev zb_L_counter : ByteArray := method_17_code
theorem zw_0 : (.laysFinal "PlainSteps$Registers" "PlainSteps$Registers" "cuts" "[J" : Cond) ∈ zq_W := List.mem_filter.mpr ⟨List.mem_append_right _ (List.mem_append_left _ (List.mem_of_getElem? (i := 39) rfl)), rfl⟩
theorem zw_1 : (.laysFinal "PlainSteps$Registers" "PlainSteps$Registers" "values" "[J" : Cond) ∈ zq_W := List.mem_filter.mpr ⟨List.mem_append_right _ (List.mem_append_left _ (List.mem_of_getElem? (i := 41) rfl)), rfl⟩
theorem zw_2 : (.laysFinal "PlainSteps$Registers" "PlainSteps$Registers" "marks" "[Z" : Cond) ∈ zq_W := List.mem_filter.mpr ⟨List.mem_append_right _ (List.mem_append_left _ (List.mem_of_getElem? (i := 43) rfl)), rfl⟩
theorem zw_3 : (.lays "PlainSteps$Registers" "PlainSteps$Registers" "count" "I" : Cond) ∈ zq_W := List.mem_filter.mpr ⟨List.mem_append_right _ (List.mem_append_left _ (List.mem_of_getElem? (i := 45) rfl)), rfl⟩
theorem zw_4 : (.laysFinal "PlainSteps$Bytes" "PlainSteps$Bytes" "cells" "[B" : Cond) ∈ zq_W := List.mem_filter.mpr ⟨List.mem_append_right _ (List.mem_append_left _ (List.mem_of_getElem? (i := 57) rfl)), rfl⟩
theorem zw_5 : (.laysFinal "PlainSteps$Operands" "PlainSteps$Operands" "registers" "LPlainSteps$Registers;" : Cond) ∈ zq_W := List.mem_filter.mpr ⟨List.mem_append_right _ (List.mem_append_left _ (List.mem_of_getElem? (i := 76) rfl)), rfl⟩
theorem zw_6 : (.laysFinal "PlainSteps$Operands" "PlainSteps$Operands" "constants" "[J" : Cond) ∈ zq_W := List.mem_filter.mpr ⟨List.mem_append_right _ (List.mem_append_left _ (List.mem_of_getElem? (i := 78) rfl)), rfl⟩
theorem zw_7 : (.laysFinal "PlainSteps$Operands" "PlainSteps$Operands" "fieldFrom" "[I" : Cond) ∈ zq_W := List.mem_filter.mpr ⟨List.mem_append_right _ (List.mem_append_left _ (List.mem_of_getElem? (i := 80) rfl)), rfl⟩
theorem zw_8 : (.laysFinal "PlainSteps$Operands" "PlainSteps$Operands" "fieldTo" "[I" : Cond) ∈ zq_W := List.mem_filter.mpr ⟨List.mem_append_right _ (List.mem_append_left _ (List.mem_of_getElem? (i := 82) rfl)), rfl⟩
theorem zw_9 : (.laysFinal "PlainSteps$Operands" "PlainSteps$Operands" "fieldSign" "[Z" : Cond) ∈ zq_W := List.mem_filter.mpr ⟨List.mem_append_right _ (List.mem_append_left _ (List.mem_of_getElem? (i := 84) rfl)), rfl⟩
theorem zw_10 : (.lays "PlainSteps$Operands" "PlainSteps$Operands" "constantCount" "I" : Cond) ∈ zq_W := List.mem_filter.mpr ⟨List.mem_append_right _ (List.mem_append_left _ (List.mem_of_getElem? (i := 86) rfl)), rfl⟩
theorem zw_11 : (.lays "PlainSteps$Operands" "PlainSteps$Operands" "fieldCount" "I" : Cond) ∈ zq_W := List.mem_filter.mpr ⟨List.mem_append_right _ (List.mem_append_left _ (List.mem_of_getElem? (i := 88) rfl)), rfl⟩
theorem zw_12 : (.laysFinal "PlainSteps$Program" "PlainSteps$Program" "ops" "[I" : Cond) ∈ zq_W := List.mem_filter.mpr ⟨List.mem_append_right _ (List.mem_append_left _ (List.mem_of_getElem? (i := 117) rfl)), rfl⟩
theorem zw_13 : (.laysFinal "PlainSteps$Program" "PlainSteps$Program" "firsts" "[I" : Cond) ∈ zq_W := List.mem_filter.mpr ⟨List.mem_append_right _ (List.mem_append_left _ (List.mem_of_getElem? (i := 119) rfl)), rfl⟩
theorem zw_14 : (.laysFinal "PlainSteps$Program" "PlainSteps$Program" "seconds" "[I" : Cond) ∈ zq_W := List.mem_filter.mpr ⟨List.mem_append_right _ (List.mem_append_left _ (List.mem_of_getElem? (i := 121) rfl)), rfl⟩
theorem zw_15 : (.laysFinal "PlainSteps$Program" "PlainSteps$Program" "targets" "[I" : Cond) ∈ zq_W := List.mem_filter.mpr ⟨List.mem_append_right _ (List.mem_append_left _ (List.mem_of_getElem? (i := 123) rfl)), rfl⟩
theorem zw_16 : (.lays "PlainSteps$Program" "PlainSteps$Program" "transferCount" "I" : Cond) ∈ zq_W := List.mem_filter.mpr ⟨List.mem_append_right _ (List.mem_append_left _ (List.mem_of_getElem? (i := 125) rfl)), rfl⟩
theorem zw_17 : (.laysFinal "PlainSteps$Program" "PlainSteps$Program" "masks" "[I" : Cond) ∈ zq_W := List.mem_filter.mpr ⟨List.mem_append_right _ (List.mem_append_left _ (List.mem_of_getElem? (i := 127) rfl)), rfl⟩
theorem zw_18 : (.laysFinal "PlainSteps$Program" "PlainSteps$Program" "values" "[I" : Cond) ∈ zq_W := List.mem_filter.mpr ⟨List.mem_append_right _ (List.mem_append_left _ (List.mem_of_getElem? (i := 129) rfl)), rfl⟩
theorem zw_19 : (.laysFinal "PlainSteps$Program" "PlainSteps$Program" "ways" "[I" : Cond) ∈ zq_W := List.mem_filter.mpr ⟨List.mem_append_right _ (List.mem_append_left _ (List.mem_of_getElem? (i := 131) rfl)), rfl⟩
theorem zw_20 : (.laysFinal "PlainSteps$Program" "PlainSteps$Program" "starts" "[I" : Cond) ∈ zq_W := List.mem_filter.mpr ⟨List.mem_append_right _ (List.mem_append_left _ (List.mem_of_getElem? (i := 133) rfl)), rfl⟩
theorem zw_21 : (.laysFinal "PlainSteps$Program" "PlainSteps$Program" "ends" "[I" : Cond) ∈ zq_W := List.mem_filter.mpr ⟨List.mem_append_right _ (List.mem_append_left _ (List.mem_of_getElem? (i := 135) rfl)), rfl⟩
theorem zw_22 : (.lays "PlainSteps$Program" "PlainSteps$Program" "instructionCount" "I" : Cond) ∈ zq_W := List.mem_filter.mpr ⟨List.mem_append_right _ (List.mem_append_left _ (List.mem_of_getElem? (i := 137) rfl)), rfl⟩
theorem zw_23 : (.laysFinal "PlainSteps$Kept" "PlainSteps$Kept" "places" "[I" : Cond) ∈ zq_W := List.mem_filter.mpr ⟨List.mem_append_right _ (List.mem_append_left _ (List.mem_of_getElem? (i := 155) rfl)), rfl⟩
theorem zw_24 : (.laysFinal "PlainSteps$Kept" "PlainSteps$Kept" "levels" "[I" : Cond) ∈ zq_W := List.mem_filter.mpr ⟨List.mem_append_right _ (List.mem_append_left _ (List.mem_of_getElem? (i := 157) rfl)), rfl⟩
theorem zw_25 : (.lays "PlainSteps$Kept" "PlainSteps$Kept" "count" "I" : Cond) ∈ zq_W := List.mem_filter.mpr ⟨List.mem_append_right _ (List.mem_append_left _ (List.mem_of_getElem? (i := 159) rfl)), rfl⟩
theorem zw_26 : (.lays "PlainSteps$Kept" "PlainSteps$Kept" "level" "I" : Cond) ∈ zq_W := List.mem_filter.mpr ⟨List.mem_append_right _ (List.mem_append_left _ (List.mem_of_getElem? (i := 161) rfl)), rfl⟩
theorem zw_27 : (.laysFinal "PlainSteps$Lines" "PlainSteps$Lines" "on" "[Z" : Cond) ∈ zq_W := List.mem_filter.mpr ⟨List.mem_append_right _ (List.mem_append_left _ (List.mem_of_getElem? (i := 172) rfl)), rfl⟩
theorem zw_28 : (.laysFinal "PlainSteps$Lines" "PlainSteps$Lines" "ranks" "[I" : Cond) ∈ zq_W := List.mem_filter.mpr ⟨List.mem_append_right _ (List.mem_append_left _ (List.mem_of_getElem? (i := 174) rfl)), rfl⟩
theorem zw_29 : (.laysFinal "PlainSteps$Writes" "PlainSteps$Writes" "registers" "LPlainSteps$Registers;" : Cond) ∈ zq_W := List.mem_filter.mpr ⟨List.mem_append_right _ (List.mem_append_left _ (List.mem_of_getElem? (i := 195) rfl)), rfl⟩
theorem zw_30 : (.laysFinal "PlainSteps$Writes" "PlainSteps$Writes" "bytes" "LPlainSteps$Bytes;" : Cond) ∈ zq_W := List.mem_filter.mpr ⟨List.mem_append_right _ (List.mem_append_left _ (List.mem_of_getElem? (i := 197) rfl)), rfl⟩
theorem zw_31 : (.laysFinal "PlainSteps$Writes" "PlainSteps$Writes" "forms" "[I" : Cond) ∈ zq_W := List.mem_filter.mpr ⟨List.mem_append_right _ (List.mem_append_left _ (List.mem_of_getElem? (i := 199) rfl)), rfl⟩
theorem zw_32 : (.laysFinal "PlainSteps$Writes" "PlainSteps$Writes" "targets" "[I" : Cond) ∈ zq_W := List.mem_filter.mpr ⟨List.mem_append_right _ (List.mem_append_left _ (List.mem_of_getElem? (i := 201) rfl)), rfl⟩
theorem zw_33 : (.laysFinal "PlainSteps$Writes" "PlainSteps$Writes" "values" "[J" : Cond) ∈ zq_W := List.mem_filter.mpr ⟨List.mem_append_right _ (List.mem_append_left _ (List.mem_of_getElem? (i := 203) rfl)), rfl⟩
theorem zw_34 : (.lays "PlainSteps$Writes" "PlainSteps$Writes" "count" "I" : Cond) ∈ zq_W := List.mem_filter.mpr ⟨List.mem_append_right _ (List.mem_append_left _ (List.mem_of_getElem? (i := 205) rfl)), rfl⟩
theorem zw_35 : (.laysFinal "PlainSteps$Work" "PlainSteps$Work" "registers" "LPlainSteps$Registers;" : Cond) ∈ zq_W := List.mem_filter.mpr ⟨List.mem_append_right _ (List.mem_append_left _ (List.mem_of_getElem? (i := 224) rfl)), rfl⟩
theorem zw_36 : (.laysFinal "PlainSteps$Work" "PlainSteps$Work" "bytes" "LPlainSteps$Bytes;" : Cond) ∈ zq_W := List.mem_filter.mpr ⟨List.mem_append_right _ (List.mem_append_left _ (List.mem_of_getElem? (i := 226) rfl)), rfl⟩
theorem zw_37 : (.laysFinal "PlainSteps$Work" "PlainSteps$Work" "operands" "LPlainSteps$Operands;" : Cond) ∈ zq_W := List.mem_filter.mpr ⟨List.mem_append_right _ (List.mem_append_left _ (List.mem_of_getElem? (i := 228) rfl)), rfl⟩
theorem zw_38 : (.laysFinal "PlainSteps$Work" "PlainSteps$Work" "program" "LPlainSteps$Program;" : Cond) ∈ zq_W := List.mem_filter.mpr ⟨List.mem_append_right _ (List.mem_append_left _ (List.mem_of_getElem? (i := 230) rfl)), rfl⟩
theorem zw_39 : (.laysFinal "PlainSteps$Work" "PlainSteps$Work" "kept" "LPlainSteps$Kept;" : Cond) ∈ zq_W := List.mem_filter.mpr ⟨List.mem_append_right _ (List.mem_append_left _ (List.mem_of_getElem? (i := 232) rfl)), rfl⟩
theorem zw_40 : (.laysFinal "PlainSteps$Work" "PlainSteps$Work" "writes" "LPlainSteps$Writes;" : Cond) ∈ zq_W := List.mem_filter.mpr ⟨List.mem_append_right _ (List.mem_append_left _ (List.mem_of_getElem? (i := 234) rfl)), rfl⟩
theorem zw_41 : (.laysFinal "PlainSteps$Work" "PlainSteps$Work" "counts" "[I" : Cond) ∈ zq_W := List.mem_filter.mpr ⟨List.mem_append_right _ (List.mem_append_left _ (List.mem_of_getElem? (i := 236) rfl)), rfl⟩
theorem zw_42 : (.lays "PlainSteps$Work" "PlainSteps$Work" "word" "I" : Cond) ∈ zq_W := List.mem_filter.mpr ⟨List.mem_append_right _ (List.mem_append_left _ (List.mem_of_getElem? (i := 238) rfl)), rfl⟩
theorem zw_43 : (.lays "PlainSteps$Work" "PlainSteps$Work" "parallel" "Z" : Cond) ∈ zq_W := List.mem_filter.mpr ⟨List.mem_append_right _ (List.mem_append_right _ (List.mem_append_left _ (List.mem_of_getElem? (i := 0) rfl))), rfl⟩
theorem zw_44 : (.lays "PlainSteps$Work" "PlainSteps$Work" "restoring" "Z" : Cond) ∈ zq_W := List.mem_filter.mpr ⟨List.mem_append_right _ (List.mem_append_right _ (List.mem_append_left _ (List.mem_of_getElem? (i := 2) rfl))), rfl⟩
theorem zw_45 : (.lays "PlainSteps$Work" "PlainSteps$Work" "wrotePlace" "Z" : Cond) ∈ zq_W := List.mem_filter.mpr ⟨List.mem_append_right _ (List.mem_append_right _ (List.mem_append_left _ (List.mem_of_getElem? (i := 4) rfl))), rfl⟩
theorem zw_46 : (.lays "PlainSteps$Work" "PlainSteps$Work" "ended" "Z" : Cond) ∈ zq_W := List.mem_filter.mpr ⟨List.mem_append_right _ (List.mem_append_right _ (List.mem_append_left _ (List.mem_of_getElem? (i := 6) rfl))), rfl⟩
theorem zw_47 : (.lays "PlainSteps$Work" "PlainSteps$Work" "halts" "Z" : Cond) ∈ zq_W := List.mem_filter.mpr ⟨List.mem_append_right _ (List.mem_append_right _ (List.mem_append_left _ (List.mem_of_getElem? (i := 8) rfl))), rfl⟩
theorem zw_48 : (.lays "PlainSteps$Work" "PlainSteps$Work" "backPlace" "I" : Cond) ∈ zq_W := List.mem_filter.mpr ⟨List.mem_append_right _ (List.mem_append_right _ (List.mem_append_left _ (List.mem_of_getElem? (i := 10) rfl))), rfl⟩
theorem zw_49 : (.laysFinal "PlainSteps$Machine" "PlainSteps$Machine" "registers" "LPlainSteps$Registers;" : Cond) ∈ zq_W := List.mem_filter.mpr ⟨List.mem_append_right _ (List.mem_append_right _ (List.mem_append_left _ (List.mem_of_getElem? (i := 33) rfl))), rfl⟩
theorem zw_50 : (.laysFinal "PlainSteps$Machine" "PlainSteps$Machine" "bytes" "LPlainSteps$Bytes;" : Cond) ∈ zq_W := List.mem_filter.mpr ⟨List.mem_append_right _ (List.mem_append_right _ (List.mem_append_left _ (List.mem_of_getElem? (i := 35) rfl))), rfl⟩
theorem zw_51 : (.laysFinal "PlainSteps$Machine" "PlainSteps$Machine" "program" "LPlainSteps$Program;" : Cond) ∈ zq_W := List.mem_filter.mpr ⟨List.mem_append_right _ (List.mem_append_right _ (List.mem_append_left _ (List.mem_of_getElem? (i := 37) rfl))), rfl⟩
theorem zw_52 : (.laysFinal "PlainSteps$Machine" "PlainSteps$Machine" "kept" "LPlainSteps$Kept;" : Cond) ∈ zq_W := List.mem_filter.mpr ⟨List.mem_append_right _ (List.mem_append_right _ (List.mem_append_left _ (List.mem_of_getElem? (i := 39) rfl))), rfl⟩
theorem zw_53 : (.laysFinal "PlainSteps$Machine" "PlainSteps$Machine" "lines" "LPlainSteps$Lines;" : Cond) ∈ zq_W := List.mem_filter.mpr ⟨List.mem_append_right _ (List.mem_append_right _ (List.mem_append_left _ (List.mem_of_getElem? (i := 41) rfl))), rfl⟩
theorem zw_54 : (.laysFinal "PlainSteps$Machine" "PlainSteps$Machine" "work" "LPlainSteps$Work;" : Cond) ∈ zq_W := List.mem_filter.mpr ⟨List.mem_append_right _ (List.mem_append_right _ (List.mem_append_left _ (List.mem_of_getElem? (i := 43) rfl))), rfl⟩
theorem zw_55 : (.laysFinal "PlainSteps$Machine" "PlainSteps$Machine" "counts" "[I" : Cond) ∈ zq_W := List.mem_filter.mpr ⟨List.mem_append_right _ (List.mem_append_right _ (List.mem_append_left _ (List.mem_of_getElem? (i := 45) rfl))), rfl⟩
theorem zw_56 : (.lays "PlainSteps$Machine" "PlainSteps$Machine" "waitingPlace" "I" : Cond) ∈ zq_W := List.mem_filter.mpr ⟨List.mem_append_right _ (List.mem_append_right _ (List.mem_append_left _ (List.mem_of_getElem? (i := 47) rfl))), rfl⟩
theorem zw_57 : (.lays "PlainSteps$Machine" "PlainSteps$Machine" "halt" "I" : Cond) ∈ zq_W := List.mem_filter.mpr ⟨List.mem_append_right _ (List.mem_append_right _ (List.mem_append_left _ (List.mem_of_getElem? (i := 49) rfl))), rfl⟩
theorem zw_58 : (.lays "PlainSteps$Machine" "PlainSteps$Machine" "faultKind" "I" : Cond) ∈ zq_W := List.mem_filter.mpr ⟨List.mem_append_right _ (List.mem_append_right _ (List.mem_append_left _ (List.mem_of_getElem? (i := 51) rfl))), rfl⟩
theorem zw_59 : (.lays "PlainSteps$Machine" "PlainSteps$Machine" "faultPlace" "I" : Cond) ∈ zq_W := List.mem_filter.mpr ⟨List.mem_append_right _ (List.mem_append_right _ (List.mem_append_left _ (List.mem_of_getElem? (i := 53) rfl))), rfl⟩
theorem zw_60 : (.laysFinal "PlainSteps" "PlainSteps" "registers" "LPlainSteps$Registers;" : Cond) ∈ zq_W := List.mem_filter.mpr ⟨List.mem_append_right _ (List.mem_append_right _ (List.mem_append_left _ (List.mem_of_getElem? (i := 64) rfl))), rfl⟩
theorem zw_61 : (.laysFinal "PlainSteps" "PlainSteps" "bytes" "LPlainSteps$Bytes;" : Cond) ∈ zq_W := List.mem_filter.mpr ⟨List.mem_append_right _ (List.mem_append_right _ (List.mem_append_left _ (List.mem_of_getElem? (i := 66) rfl))), rfl⟩
theorem zw_62 : (.laysFinal "PlainSteps" "PlainSteps" "operands" "LPlainSteps$Operands;" : Cond) ∈ zq_W := List.mem_filter.mpr ⟨List.mem_append_right _ (List.mem_append_right _ (List.mem_append_left _ (List.mem_of_getElem? (i := 68) rfl))), rfl⟩
theorem zw_63 : (.laysFinal "PlainSteps" "PlainSteps" "program" "LPlainSteps$Program;" : Cond) ∈ zq_W := List.mem_filter.mpr ⟨List.mem_append_right _ (List.mem_append_right _ (List.mem_append_left _ (List.mem_of_getElem? (i := 70) rfl))), rfl⟩
theorem zw_64 : (.laysFinal "PlainSteps" "PlainSteps" "kept" "LPlainSteps$Kept;" : Cond) ∈ zq_W := List.mem_filter.mpr ⟨List.mem_append_right _ (List.mem_append_right _ (List.mem_append_left _ (List.mem_of_getElem? (i := 72) rfl))), rfl⟩
theorem zw_65 : (.laysFinal "PlainSteps" "PlainSteps" "lines" "LPlainSteps$Lines;" : Cond) ∈ zq_W := List.mem_filter.mpr ⟨List.mem_append_right _ (List.mem_append_right _ (List.mem_append_left _ (List.mem_of_getElem? (i := 74) rfl))), rfl⟩
theorem zw_66 : (.laysFinal "PlainSteps" "PlainSteps" "machine" "LPlainSteps$Machine;" : Cond) ∈ zq_W := List.mem_filter.mpr ⟨List.mem_append_right _ (List.mem_append_right _ (List.mem_append_left _ (List.mem_of_getElem? (i := 76) rfl))), rfl⟩
theorem zw_67 : (.laysFinal "PlainSteps" "PlainSteps" "counts" "[I" : Cond) ∈ zq_W := List.mem_filter.mpr ⟨List.mem_append_right _ (List.mem_append_right _ (List.mem_append_left _ (List.mem_of_getElem? (i := 78) rfl))), rfl⟩
theorem zw_68 : (.lays "PlainStepsModel" "PlainStepsModel" "thrown" "I" : Cond) ∈ zq_W := List.mem_filter.mpr ⟨List.mem_append_right _ (List.mem_append_right _ (List.mem_append_right _ (List.mem_append_right _ (List.mem_append_left _ (List.mem_of_getElem? (i := 153) rfl))))), rfl⟩
theorem zw_69 : (.lays "PlainStepsModel" "PlainStepsModel" "registers" "I" : Cond) ∈ zq_W := List.mem_filter.mpr ⟨List.mem_append_right _ (List.mem_append_right _ (List.mem_append_right _ (List.mem_append_right _ (List.mem_append_left _ (List.mem_of_getElem? (i := 155) rfl))))), rfl⟩
theorem zw_70 : (.laysFinal "PlainStepsModel" "PlainStepsModel" "width" "[I" : Cond) ∈ zq_W := List.mem_filter.mpr ⟨List.mem_append_right _ (List.mem_append_right _ (List.mem_append_right _ (List.mem_append_right _ (List.mem_append_left _ (List.mem_of_getElem? (i := 157) rfl))))), rfl⟩
theorem zw_71 : (.laysFinal "PlainStepsModel" "PlainStepsModel" "value" "[J" : Cond) ∈ zq_W := List.mem_filter.mpr ⟨List.mem_append_right _ (List.mem_append_right _ (List.mem_append_right _ (List.mem_append_right _ (List.mem_append_left _ (List.mem_of_getElem? (i := 159) rfl))))), rfl⟩
theorem zw_72 : (.laysFinal "PlainStepsModel" "PlainStepsModel" "before" "[J" : Cond) ∈ zq_W := List.mem_filter.mpr ⟨List.mem_append_right _ (List.mem_append_right _ (List.mem_append_right _ (List.mem_append_right _ (List.mem_append_left _ (List.mem_of_getElem? (i := 161) rfl))))), rfl⟩
theorem zw_73 : (.laysFinal "PlainStepsModel" "PlainStepsModel" "saved" "[J" : Cond) ∈ zq_W := List.mem_filter.mpr ⟨List.mem_append_right _ (List.mem_append_right _ (List.mem_append_right _ (List.mem_append_right _ (List.mem_append_left _ (List.mem_of_getElem? (i := 163) rfl))))), rfl⟩
theorem zw_74 : (.laysFinal "PlainStepsModel" "PlainStepsModel" "marked" "[Z" : Cond) ∈ zq_W := List.mem_filter.mpr ⟨List.mem_append_right _ (List.mem_append_right _ (List.mem_append_right _ (List.mem_append_right _ (List.mem_append_left _ (List.mem_of_getElem? (i := 165) rfl))))), rfl⟩
theorem zw_75 : (.laysFinal "PlainStepsModel" "PlainStepsModel" "markedBefore" "[Z" : Cond) ∈ zq_W := List.mem_filter.mpr ⟨List.mem_append_right _ (List.mem_append_right _ (List.mem_append_right _ (List.mem_append_right _ (List.mem_append_left _ (List.mem_of_getElem? (i := 167) rfl))))), rfl⟩
theorem zw_76 : (.laysFinal "PlainStepsModel" "PlainStepsModel" "markedSaved" "[Z" : Cond) ∈ zq_W := List.mem_filter.mpr ⟨List.mem_append_right _ (List.mem_append_right _ (List.mem_append_right _ (List.mem_append_right _ (List.mem_append_left _ (List.mem_of_getElem? (i := 169) rfl))))), rfl⟩
theorem zw_77 : (.laysFinal "PlainStepsModel" "PlainStepsModel" "memory" "[B" : Cond) ∈ zq_W := List.mem_filter.mpr ⟨List.mem_append_right _ (List.mem_append_right _ (List.mem_append_right _ (List.mem_append_right _ (List.mem_append_left _ (List.mem_of_getElem? (i := 171) rfl))))), rfl⟩
theorem zw_78 : (.laysFinal "PlainStepsModel" "PlainStepsModel" "memorySaved" "[B" : Cond) ∈ zq_W := List.mem_filter.mpr ⟨List.mem_append_right _ (List.mem_append_right _ (List.mem_append_right _ (List.mem_append_right _ (List.mem_append_left _ (List.mem_of_getElem? (i := 173) rfl))))), rfl⟩
theorem zw_79 : (.lays "PlainStepsModel" "PlainStepsModel" "constants" "I" : Cond) ∈ zq_W := List.mem_filter.mpr ⟨List.mem_append_right _ (List.mem_append_right _ (List.mem_append_right _ (List.mem_append_right _ (List.mem_append_left _ (List.mem_of_getElem? (i := 175) rfl))))), rfl⟩
theorem zw_80 : (.lays "PlainStepsModel" "PlainStepsModel" "fields" "I" : Cond) ∈ zq_W := List.mem_filter.mpr ⟨List.mem_append_right _ (List.mem_append_right _ (List.mem_append_right _ (List.mem_append_right _ (List.mem_append_left _ (List.mem_of_getElem? (i := 177) rfl))))), rfl⟩
theorem zw_81 : (.lays "PlainStepsModel" "PlainStepsModel" "transfers" "I" : Cond) ∈ zq_W := List.mem_filter.mpr ⟨List.mem_append_right _ (List.mem_append_right _ (List.mem_append_right _ (List.mem_append_right _ (List.mem_append_left _ (List.mem_of_getElem? (i := 179) rfl))))), rfl⟩
theorem zw_82 : (.lays "PlainStepsModel" "PlainStepsModel" "instructions" "I" : Cond) ∈ zq_W := List.mem_filter.mpr ⟨List.mem_append_right _ (List.mem_append_right _ (List.mem_append_right _ (List.mem_append_right _ (List.mem_append_left _ (List.mem_of_getElem? (i := 181) rfl))))), rfl⟩
theorem zw_83 : (.laysFinal "PlainStepsModel" "PlainStepsModel" "constant" "[J" : Cond) ∈ zq_W := List.mem_filter.mpr ⟨List.mem_append_right _ (List.mem_append_right _ (List.mem_append_right _ (List.mem_append_right _ (List.mem_append_left _ (List.mem_of_getElem? (i := 183) rfl))))), rfl⟩
theorem zw_84 : (.laysFinal "PlainStepsModel" "PlainStepsModel" "from" "[I" : Cond) ∈ zq_W := List.mem_filter.mpr ⟨List.mem_append_right _ (List.mem_append_right _ (List.mem_append_right _ (List.mem_append_right _ (List.mem_append_left _ (List.mem_of_getElem? (i := 185) rfl))))), rfl⟩
theorem zw_85 : (.laysFinal "PlainStepsModel" "PlainStepsModel" "to" "[I" : Cond) ∈ zq_W := List.mem_filter.mpr ⟨List.mem_append_right _ (List.mem_append_right _ (List.mem_append_right _ (List.mem_append_right _ (List.mem_append_left _ (List.mem_of_getElem? (i := 187) rfl))))), rfl⟩
theorem zw_86 : (.laysFinal "PlainStepsModel" "PlainStepsModel" "signed" "[Z" : Cond) ∈ zq_W := List.mem_filter.mpr ⟨List.mem_append_right _ (List.mem_append_right _ (List.mem_append_right _ (List.mem_append_right _ (List.mem_append_left _ (List.mem_of_getElem? (i := 189) rfl))))), rfl⟩
theorem zw_87 : (.laysFinal "PlainStepsModel" "PlainStepsModel" "op" "[I" : Cond) ∈ zq_W := List.mem_filter.mpr ⟨List.mem_append_right _ (List.mem_append_right _ (List.mem_append_right _ (List.mem_append_right _ (List.mem_append_left _ (List.mem_of_getElem? (i := 191) rfl))))), rfl⟩
theorem zw_88 : (.laysFinal "PlainStepsModel" "PlainStepsModel" "first" "[I" : Cond) ∈ zq_W := List.mem_filter.mpr ⟨List.mem_append_right _ (List.mem_append_right _ (List.mem_append_right _ (List.mem_append_right _ (List.mem_append_left _ (List.mem_of_getElem? (i := 193) rfl))))), rfl⟩
theorem zw_89 : (.laysFinal "PlainStepsModel" "PlainStepsModel" "second" "[I" : Cond) ∈ zq_W := List.mem_filter.mpr ⟨List.mem_append_right _ (List.mem_append_right _ (List.mem_append_right _ (List.mem_append_right _ (List.mem_append_left _ (List.mem_of_getElem? (i := 195) rfl))))), rfl⟩
theorem zw_90 : (.laysFinal "PlainStepsModel" "PlainStepsModel" "target" "[I" : Cond) ∈ zq_W := List.mem_filter.mpr ⟨List.mem_append_right _ (List.mem_append_right _ (List.mem_append_right _ (List.mem_append_right _ (List.mem_append_left _ (List.mem_of_getElem? (i := 197) rfl))))), rfl⟩
theorem zw_91 : (.laysFinal "PlainStepsModel" "PlainStepsModel" "mask" "[I" : Cond) ∈ zq_W := List.mem_filter.mpr ⟨List.mem_append_right _ (List.mem_append_right _ (List.mem_append_right _ (List.mem_append_right _ (List.mem_append_left _ (List.mem_of_getElem? (i := 199) rfl))))), rfl⟩
theorem zw_92 : (.laysFinal "PlainStepsModel" "PlainStepsModel" "pattern" "[I" : Cond) ∈ zq_W := List.mem_filter.mpr ⟨List.mem_append_right _ (List.mem_append_right _ (List.mem_append_right _ (List.mem_append_right _ (List.mem_append_left _ (List.mem_of_getElem? (i := 201) rfl))))), rfl⟩
theorem zw_93 : (.laysFinal "PlainStepsModel" "PlainStepsModel" "how" "[I" : Cond) ∈ zq_W := List.mem_filter.mpr ⟨List.mem_append_right _ (List.mem_append_right _ (List.mem_append_right _ (List.mem_append_right _ (List.mem_append_left _ (List.mem_of_getElem? (i := 203) rfl))))), rfl⟩
theorem zw_94 : (.laysFinal "PlainStepsModel" "PlainStepsModel" "begin" "[I" : Cond) ∈ zq_W := List.mem_filter.mpr ⟨List.mem_append_right _ (List.mem_append_right _ (List.mem_append_right _ (List.mem_append_right _ (List.mem_append_left _ (List.mem_of_getElem? (i := 205) rfl))))), rfl⟩
theorem zw_95 : (.laysFinal "PlainStepsModel" "PlainStepsModel" "on" "[Z" : Cond) ∈ zq_W := List.mem_filter.mpr ⟨List.mem_append_right _ (List.mem_append_right _ (List.mem_append_right _ (List.mem_append_right _ (List.mem_append_left _ (List.mem_of_getElem? (i := 207) rfl))))), rfl⟩
theorem zw_96 : (.laysFinal "PlainStepsModel" "PlainStepsModel" "rank" "[I" : Cond) ∈ zq_W := List.mem_filter.mpr ⟨List.mem_append_right _ (List.mem_append_right _ (List.mem_append_right _ (List.mem_append_right _ (List.mem_append_left _ (List.mem_of_getElem? (i := 209) rfl))))), rfl⟩
theorem zw_97 : (.lays "PlainStepsModel" "PlainStepsModel" "level" "I" : Cond) ∈ zq_W := List.mem_filter.mpr ⟨List.mem_append_right _ (List.mem_append_right _ (List.mem_append_right _ (List.mem_append_right _ (List.mem_append_left _ (List.mem_of_getElem? (i := 211) rfl))))), rfl⟩
theorem zw_98 : (.lays "PlainStepsModel" "PlainStepsModel" "kept" "I" : Cond) ∈ zq_W := List.mem_filter.mpr ⟨List.mem_append_right _ (List.mem_append_right _ (List.mem_append_right _ (List.mem_append_right _ (List.mem_append_left _ (List.mem_of_getElem? (i := 213) rfl))))), rfl⟩
theorem zw_99 : (.lays "PlainStepsModel" "PlainStepsModel" "levelSaved" "I" : Cond) ∈ zq_W := List.mem_filter.mpr ⟨List.mem_append_right _ (List.mem_append_right _ (List.mem_append_right _ (List.mem_append_right _ (List.mem_append_left _ (List.mem_of_getElem? (i := 215) rfl))))), rfl⟩
theorem zw_100 : (.lays "PlainStepsModel" "PlainStepsModel" "keptSaved" "I" : Cond) ∈ zq_W := List.mem_filter.mpr ⟨List.mem_append_right _ (List.mem_append_right _ (List.mem_append_right _ (List.mem_append_right _ (List.mem_append_left _ (List.mem_of_getElem? (i := 217) rfl))))), rfl⟩
theorem zw_101 : (.laysFinal "PlainStepsModel" "PlainStepsModel" "keptPlace" "[I" : Cond) ∈ zq_W := List.mem_filter.mpr ⟨List.mem_append_right _ (List.mem_append_right _ (List.mem_append_right _ (List.mem_append_right _ (List.mem_append_left _ (List.mem_of_getElem? (i := 219) rfl))))), rfl⟩
theorem zw_102 : (.laysFinal "PlainStepsModel" "PlainStepsModel" "keptLevel" "[I" : Cond) ∈ zq_W := List.mem_filter.mpr ⟨List.mem_append_right _ (List.mem_append_right _ (List.mem_append_right _ (List.mem_append_right _ (List.mem_append_left _ (List.mem_of_getElem? (i := 221) rfl))))), rfl⟩
theorem zw_103 : (.lays "PlainStepsModel" "PlainStepsModel" "word" "I" : Cond) ∈ zq_W := List.mem_filter.mpr ⟨List.mem_append_right _ (List.mem_append_right _ (List.mem_append_right _ (List.mem_append_right _ (List.mem_append_left _ (List.mem_of_getElem? (i := 223) rfl))))), rfl⟩
theorem zw_104 : (.lays "PlainStepsModel" "PlainStepsModel" "stands" "I" : Cond) ∈ zq_W := List.mem_filter.mpr ⟨List.mem_append_right _ (List.mem_append_right _ (List.mem_append_right _ (List.mem_append_right _ (List.mem_append_left _ (List.mem_of_getElem? (i := 225) rfl))))), rfl⟩
theorem zw_105 : (.lays "PlainStepsModel" "PlainStepsModel" "fault" "I" : Cond) ∈ zq_W := List.mem_filter.mpr ⟨List.mem_append_right _ (List.mem_append_right _ (List.mem_append_right _ (List.mem_append_right _ (List.mem_append_left _ (List.mem_of_getElem? (i := 227) rfl))))), rfl⟩
theorem zw_106 : (.lays "PlainStepsModel" "PlainStepsModel" "ends" "Z" : Cond) ∈ zq_W := List.mem_filter.mpr ⟨List.mem_append_right _ (List.mem_append_right _ (List.mem_append_right _ (List.mem_append_right _ (List.mem_append_left _ (List.mem_of_getElem? (i := 229) rfl))))), rfl⟩
theorem zw_107 : (.lays "PlainStepsModel" "PlainStepsModel" "halts" "Z" : Cond) ∈ zq_W := List.mem_filter.mpr ⟨List.mem_append_right _ (List.mem_append_right _ (List.mem_append_right _ (List.mem_append_right _ (List.mem_append_left _ (List.mem_of_getElem? (i := 231) rfl))))), rfl⟩
theorem zw_108 : (.lays "PlainStepsModel" "PlainStepsModel" "wrote" "Z" : Cond) ∈ zq_W := List.mem_filter.mpr ⟨List.mem_append_right _ (List.mem_append_right _ (List.mem_append_right _ (List.mem_append_right _ (List.mem_append_left _ (List.mem_of_getElem? (i := 233) rfl))))), rfl⟩
theorem zw_109 : (.lays "PlainStepsModel" "PlainStepsModel" "waits" "Z" : Cond) ∈ zq_W := List.mem_filter.mpr ⟨List.mem_append_right _ (List.mem_append_right _ (List.mem_append_right _ (List.mem_append_right _ (List.mem_append_left _ (List.mem_of_getElem? (i := 235) rfl))))), rfl⟩
theorem zw_110 : (.lays "PlainStepsModel" "PlainStepsModel" "waitsPlace" "J" : Cond) ∈ zq_W := List.mem_filter.mpr ⟨List.mem_append_right _ (List.mem_append_right _ (List.mem_append_right _ (List.mem_append_right _ (List.mem_append_left _ (List.mem_of_getElem? (i := 237) rfl))))), rfl⟩
theorem zw_111 : (.lays "PlainStepsModel" "PlainStepsModel" "writes" "I" : Cond) ∈ zq_W := List.mem_filter.mpr ⟨List.mem_append_right _ (List.mem_append_right _ (List.mem_append_right _ (List.mem_append_right _ (List.mem_append_left _ (List.mem_of_getElem? (i := 239) rfl))))), rfl⟩
theorem zw_112 : (.laysFinal "PlainStepsModel" "PlainStepsModel" "writeTo" "[I" : Cond) ∈ zq_W := List.mem_filter.mpr ⟨List.mem_append_right _ (List.mem_append_right _ (List.mem_append_right _ (List.mem_append_right _ (List.mem_append_right _ (List.mem_of_getElem? (i := 1) rfl))))), rfl⟩
theorem zw_113 : (.laysFinal "PlainStepsModel" "PlainStepsModel" "writeAt" "[I" : Cond) ∈ zq_W := List.mem_filter.mpr ⟨List.mem_append_right _ (List.mem_append_right _ (List.mem_append_right _ (List.mem_append_right _ (List.mem_append_right _ (List.mem_of_getElem? (i := 3) rfl))))), rfl⟩
theorem zw_114 : (.laysFinal "PlainStepsModel" "PlainStepsModel" "writeValue" "[J" : Cond) ∈ zq_W := List.mem_filter.mpr ⟨List.mem_append_right _ (List.mem_append_right _ (List.mem_append_right _ (List.mem_append_right _ (List.mem_append_right _ (List.mem_of_getElem? (i := 5) rfl))))), rfl⟩
theorem zw_115 : (.laysFinal "PlainStepsModel" "PlainStepsModel" "writeMark" "[Z" : Cond) ∈ zq_W := List.mem_filter.mpr ⟨List.mem_append_right _ (List.mem_append_right _ (List.mem_append_right _ (List.mem_append_right _ (List.mem_append_right _ (List.mem_of_getElem? (i := 7) rfl))))), rfl⟩
theorem zw_116 : (.lays "PlainStepsModel" "PlainStepsModel" "halted" "I" : Cond) ∈ zq_W := List.mem_filter.mpr ⟨List.mem_append_right _ (List.mem_append_right _ (List.mem_append_right _ (List.mem_append_right _ (List.mem_append_right _ (List.mem_of_getElem? (i := 9) rfl))))), rfl⟩
theorem zw_117 : (.lays "PlainStepsModel" "PlainStepsModel" "latest" "I" : Cond) ∈ zq_W := List.mem_filter.mpr ⟨List.mem_append_right _ (List.mem_append_right _ (List.mem_append_right _ (List.mem_append_right _ (List.mem_append_right _ (List.mem_of_getElem? (i := 11) rfl))))), rfl⟩
theorem zw_118 : (.lays "PlainStepsModel" "PlainStepsModel" "latestPlace" "I" : Cond) ∈ zq_W := List.mem_filter.mpr ⟨List.mem_append_right _ (List.mem_append_right _ (List.mem_append_right _ (List.mem_append_right _ (List.mem_append_right _ (List.mem_of_getElem? (i := 13) rfl))))), rfl⟩
theorem zw_119 : (.laysFinal "PlainStepsModel" "PlainStepsModel" "count" "[I" : Cond) ∈ zq_W := List.mem_filter.mpr ⟨List.mem_append_right _ (List.mem_append_right _ (List.mem_append_right _ (List.mem_append_right _ (List.mem_append_right _ (List.mem_of_getElem? (i := 15) rfl))))), rfl⟩
theorem zw_120 : (.fieldLink "PlainSteps$Registers" 9 "PlainSteps$Registers" "cuts" "[J" : Cond) ∈ zq_W := List.mem_filter.mpr ⟨List.mem_append_right _ (List.mem_append_left _ (List.mem_of_getElem? (i := 34) rfl)), rfl⟩
theorem zw_121 : (.fieldLink "PlainSteps$Registers" 24 "PlainSteps$Registers" "count" "I" : Cond) ∈ zq_W := List.mem_filter.mpr ⟨List.mem_append_right _ (List.mem_append_left _ (List.mem_of_getElem? (i := 37) rfl)), rfl⟩
theorem zw_122 : (.constantLong "PlainSteps$Registers" 28 (-1) : Cond) ∈ zq_W := List.mem_filter.mpr ⟨List.mem_append_right _ (List.mem_append_right _ (List.mem_append_left _ (List.mem_of_getElem? (i := 182) rfl))), rfl⟩
theorem zw_123 : (.fieldLink "PlainSteps$Registers" 18 "PlainSteps$Registers" "marks" "[Z" : Cond) ∈ zq_W := List.mem_filter.mpr ⟨List.mem_append_right _ (List.mem_append_left _ (List.mem_of_getElem? (i := 36) rfl)), rfl⟩
theorem zw_124 : (.fieldLink "PlainSteps$Registers" 15 "PlainSteps$Registers" "values" "[J" : Cond) ∈ zq_W := List.mem_filter.mpr ⟨List.mem_append_right _ (List.mem_append_left _ (List.mem_of_getElem? (i := 35) rfl)), rfl⟩
theorem zw_125 : (.methodLink "PlainSteps$Registers" 30 zy_Registers_put : Cond) ∈ zq_W := List.mem_filter.mpr ⟨List.mem_append_right _ (List.mem_append_right _ (List.mem_append_right _ (List.mem_append_left _ (List.mem_of_getElem? (i := 127) rfl)))), rfl⟩
theorem zw_126 : (.instanceMethod zy_Registers_put : Cond) ∈ zq_W := List.mem_filter.mpr ⟨List.mem_append_right _ (List.mem_append_right _ (List.mem_append_right _ (List.mem_append_left _ (List.mem_of_getElem? (i := 111) rfl)))), rfl⟩
theorem zw_127 : (.selects "PlainSteps$Registers" zy_Registers_put zy_Registers_put : Cond) ∈ zq_W := List.mem_filter.mpr ⟨List.mem_append_right _ (List.mem_append_right _ (List.mem_append_right _ (List.mem_append_left _ (List.mem_of_getElem? (i := 112) rfl)))), rfl⟩
theorem zw_128 : (.initialized "PlainSteps$Registers" : Cond) ∈ zq_W := List.mem_filter.mpr ⟨List.mem_append_right _ (List.mem_append_left _ (List.mem_of_getElem? (i := 2) rfl)), rfl⟩
theorem zw_129 : (.code zy_Registers_put zb_Registers_put 5 none : Cond) ∈ zq_W := List.mem_filter.mpr ⟨List.mem_append_right _ (List.mem_append_right _ (List.mem_append_right _ (List.mem_append_left _ (List.mem_of_getElem? (i := 113) rfl)))), rfl⟩
theorem zw_130 : (.constantLong "PlainSteps$Bytes" 15 (4096) : Cond) ∈ zq_W := List.mem_filter.mpr ⟨List.mem_append_right _ (List.mem_append_right _ (List.mem_append_right _ (List.mem_append_left _ (List.mem_of_getElem? (i := 20) rfl)))), rfl⟩
theorem zw_131 : (.methodLink "PlainSteps$Bytes" 17 zy_Bytes_hasByte : Cond) ∈ zq_W := List.mem_filter.mpr ⟨List.mem_append_right _ (List.mem_append_right _ (List.mem_append_right _ (List.mem_append_left _ (List.mem_of_getElem? (i := 118) rfl)))), rfl⟩
theorem zw_132 : (.instanceMethod zy_Bytes_hasByte : Cond) ∈ zq_W := List.mem_filter.mpr ⟨List.mem_append_right _ (List.mem_append_right _ (List.mem_append_right _ (List.mem_append_left _ (List.mem_of_getElem? (i := 17) rfl)))), rfl⟩
theorem zw_133 : (.selects "PlainSteps$Bytes" zy_Bytes_hasByte zy_Bytes_hasByte : Cond) ∈ zq_W := List.mem_filter.mpr ⟨List.mem_append_right _ (List.mem_append_right _ (List.mem_append_right _ (List.mem_append_left _ (List.mem_of_getElem? (i := 18) rfl)))), rfl⟩
theorem zw_134 : (.initialized "PlainSteps$Bytes" : Cond) ∈ zq_W := List.mem_filter.mpr ⟨List.mem_append_right _ (List.mem_append_left _ (List.mem_of_getElem? (i := 3) rfl)), rfl⟩
theorem zw_135 : (.code zy_Bytes_hasByte zb_Bytes_hasByte 3 (some .boolean) : Cond) ∈ zq_W := List.mem_filter.mpr ⟨List.mem_append_right _ (List.mem_append_right _ (List.mem_append_right _ (List.mem_append_left _ (List.mem_of_getElem? (i := 19) rfl)))), rfl⟩
theorem zw_136 : (.fieldLink "PlainSteps$Bytes" 9 "PlainSteps$Bytes" "cells" "[B" : Cond) ∈ zq_W := List.mem_filter.mpr ⟨List.mem_append_right _ (List.mem_append_left _ (List.mem_of_getElem? (i := 56) rfl)), rfl⟩
theorem zw_137 : (.fieldLink "PlainSteps$Operands" 9 "PlainSteps$Operands" "constants" "[J" : Cond) ∈ zq_W := List.mem_filter.mpr ⟨List.mem_append_right _ (List.mem_append_left _ (List.mem_of_getElem? (i := 68) rfl)), rfl⟩
theorem zw_138 : (.fieldLink "PlainSteps$Operands" 30 "PlainSteps$Operands" "constantCount" "I" : Cond) ∈ zq_W := List.mem_filter.mpr ⟨List.mem_append_right _ (List.mem_append_left _ (List.mem_of_getElem? (i := 72) rfl)), rfl⟩
theorem zw_139 : (.fieldLink "PlainSteps$Operands" 15 "PlainSteps$Operands" "fieldFrom" "[I" : Cond) ∈ zq_W := List.mem_filter.mpr ⟨List.mem_append_right _ (List.mem_append_left _ (List.mem_of_getElem? (i := 69) rfl)), rfl⟩
theorem zw_140 : (.fieldLink "PlainSteps$Operands" 34 "PlainSteps$Operands" "fieldCount" "I" : Cond) ∈ zq_W := List.mem_filter.mpr ⟨List.mem_append_right _ (List.mem_append_left _ (List.mem_of_getElem? (i := 74) rfl)), rfl⟩
theorem zw_141 : (.fieldLink "PlainSteps$Operands" 19 "PlainSteps$Operands" "fieldTo" "[I" : Cond) ∈ zq_W := List.mem_filter.mpr ⟨List.mem_append_right _ (List.mem_append_left _ (List.mem_of_getElem? (i := 70) rfl)), rfl⟩
theorem zw_142 : (.fieldLink "PlainSteps$Operands" 22 "PlainSteps$Operands" "fieldSign" "[Z" : Cond) ∈ zq_W := List.mem_filter.mpr ⟨List.mem_append_right _ (List.mem_append_left _ (List.mem_of_getElem? (i := 71) rfl)), rfl⟩
theorem zw_143 : (.fieldLink "PlainSteps$Operands" 26 "PlainSteps$Operands" "registers" "LPlainSteps$Registers;" : Cond) ∈ zq_W := List.mem_filter.mpr ⟨List.mem_append_right _ (List.mem_append_left _ (List.mem_of_getElem? (i := 67) rfl)), rfl⟩
theorem zw_144 : (.methodLink "PlainSteps$Operands" 37 zy_Registers_has : Cond) ∈ zq_W := List.mem_filter.mpr ⟨List.mem_append_right _ (List.mem_append_right _ (List.mem_append_left _ (List.mem_of_getElem? (i := 220) rfl))), rfl⟩
theorem zw_145 : (.instanceMethod zy_Registers_has : Cond) ∈ zq_W := List.mem_filter.mpr ⟨List.mem_append_right _ (List.mem_append_right _ (List.mem_append_left _ (List.mem_of_getElem? (i := 221) rfl))), rfl⟩
theorem zw_146 : (.selects "PlainSteps$Registers" zy_Registers_has zy_Registers_has : Cond) ∈ zq_W := List.mem_filter.mpr ⟨List.mem_append_right _ (List.mem_append_right _ (List.mem_append_left _ (List.mem_of_getElem? (i := 222) rfl))), rfl⟩
theorem zw_147 : (.code zy_Registers_has zb_Registers_has 2 (some .boolean) : Cond) ∈ zq_W := List.mem_filter.mpr ⟨List.mem_append_right _ (List.mem_append_right _ (List.mem_append_left _ (List.mem_of_getElem? (i := 223) rfl))), rfl⟩
theorem zw_148 : (.methodLink "PlainSteps$Operands" 47 zy_Registers_valueOf : Cond) ∈ zq_W := List.mem_filter.mpr ⟨List.mem_append_right _ (List.mem_append_right _ (List.mem_append_right _ (List.mem_append_left _ (List.mem_of_getElem? (i := 164) rfl)))), rfl⟩
theorem zw_149 : (.instanceMethod zy_Registers_valueOf : Cond) ∈ zq_W := List.mem_filter.mpr ⟨List.mem_append_right _ (List.mem_append_right _ (List.mem_append_right _ (List.mem_append_left _ (List.mem_of_getElem? (i := 165) rfl)))), rfl⟩
theorem zw_150 : (.selects "PlainSteps$Registers" zy_Registers_valueOf zy_Registers_valueOf : Cond) ∈ zq_W := List.mem_filter.mpr ⟨List.mem_append_right _ (List.mem_append_right _ (List.mem_append_right _ (List.mem_append_left _ (List.mem_of_getElem? (i := 166) rfl)))), rfl⟩
theorem zw_151 : (.code zy_Registers_valueOf zb_Registers_valueOf 2 (some .long) : Cond) ∈ zq_W := List.mem_filter.mpr ⟨List.mem_append_right _ (List.mem_append_right _ (List.mem_append_right _ (List.mem_append_left _ (List.mem_of_getElem? (i := 167) rfl)))), rfl⟩
theorem zw_152 : (.methodLink "PlainSteps$Operands" 43 zy_Operands_readField : Cond) ∈ zq_W := List.mem_filter.mpr ⟨List.mem_append_right _ (List.mem_append_right _ (List.mem_append_right _ (List.mem_append_left _ (List.mem_of_getElem? (i := 160) rfl)))), rfl⟩
theorem zw_153 : (.instanceMethod zy_Operands_readField : Cond) ∈ zq_W := List.mem_filter.mpr ⟨List.mem_append_right _ (List.mem_append_right _ (List.mem_append_right _ (List.mem_append_left _ (List.mem_of_getElem? (i := 162) rfl)))), rfl⟩
theorem zw_154 : (.selects "PlainSteps$Operands" zy_Operands_readField zy_Operands_readField : Cond) ∈ zq_W := List.mem_filter.mpr ⟨List.mem_append_left _ (List.mem_of_getElem? (i := 5) rfl), rfl⟩
theorem zw_155 : (.initialized "PlainSteps$Operands" : Cond) ∈ zq_W := List.mem_filter.mpr ⟨List.mem_append_right _ (List.mem_append_left _ (List.mem_of_getElem? (i := 4) rfl)), rfl⟩
theorem zw_156 : (.code zy_Operands_readField zb_Operands_readField 7 (some .long) : Cond) ∈ zq_W := List.mem_filter.mpr ⟨List.mem_append_right _ (List.mem_append_right _ (List.mem_append_right _ (List.mem_append_left _ (List.mem_of_getElem? (i := 163) rfl)))), rfl⟩
theorem zw_157 : (.methodLink "PlainSteps$Operands" 51 zy_Registers_isMarked : Cond) ∈ zq_W := List.mem_filter.mpr ⟨List.mem_append_right _ (List.mem_append_right _ (List.mem_append_right _ (List.mem_append_left _ (List.mem_of_getElem? (i := 172) rfl)))), rfl⟩
theorem zw_158 : (.instanceMethod zy_Registers_isMarked : Cond) ∈ zq_W := List.mem_filter.mpr ⟨List.mem_append_right _ (List.mem_append_right _ (List.mem_append_right _ (List.mem_append_left _ (List.mem_of_getElem? (i := 173) rfl)))), rfl⟩
theorem zw_159 : (.selects "PlainSteps$Registers" zy_Registers_isMarked zy_Registers_isMarked : Cond) ∈ zq_W := List.mem_filter.mpr ⟨List.mem_append_right _ (List.mem_append_right _ (List.mem_append_right _ (List.mem_append_left _ (List.mem_of_getElem? (i := 174) rfl)))), rfl⟩
theorem zw_160 : (.code zy_Registers_isMarked zb_Registers_isMarked 2 (some .boolean) : Cond) ∈ zq_W := List.mem_filter.mpr ⟨List.mem_append_right _ (List.mem_append_right _ (List.mem_append_right _ (List.mem_append_left _ (List.mem_of_getElem? (i := 175) rfl)))), rfl⟩
theorem zw_161 : (.fieldLink "PlainSteps$Program" 9 "PlainSteps$Program" "ops" "[I" : Cond) ∈ zq_W := List.mem_filter.mpr ⟨List.mem_append_right _ (List.mem_append_left _ (List.mem_of_getElem? (i := 98) rfl)), rfl⟩
theorem zw_162 : (.fieldLink "PlainSteps$Program" 39 "PlainSteps$Program" "transferCount" "I" : Cond) ∈ zq_W := List.mem_filter.mpr ⟨List.mem_append_right _ (List.mem_append_left _ (List.mem_of_getElem? (i := 106) rfl)), rfl⟩
theorem zw_163 : (.fieldLink "PlainSteps$Program" 15 "PlainSteps$Program" "firsts" "[I" : Cond) ∈ zq_W := List.mem_filter.mpr ⟨List.mem_append_right _ (List.mem_append_left _ (List.mem_of_getElem? (i := 100) rfl)), rfl⟩
theorem zw_164 : (.fieldLink "PlainSteps$Program" 18 "PlainSteps$Program" "seconds" "[I" : Cond) ∈ zq_W := List.mem_filter.mpr ⟨List.mem_append_right _ (List.mem_append_left _ (List.mem_of_getElem? (i := 102) rfl)), rfl⟩
theorem zw_165 : (.fieldLink "PlainSteps$Program" 21 "PlainSteps$Program" "targets" "[I" : Cond) ∈ zq_W := List.mem_filter.mpr ⟨List.mem_append_right _ (List.mem_append_left _ (List.mem_of_getElem? (i := 104) rfl)), rfl⟩
theorem zw_166 : (.fieldLink "PlainSteps$Program" 24 "PlainSteps$Program" "masks" "[I" : Cond) ∈ zq_W := List.mem_filter.mpr ⟨List.mem_append_right _ (List.mem_append_left _ (List.mem_of_getElem? (i := 108) rfl)), rfl⟩
theorem zw_167 : (.fieldLink "PlainSteps$Program" 43 "PlainSteps$Program" "instructionCount" "I" : Cond) ∈ zq_W := List.mem_filter.mpr ⟨List.mem_append_right _ (List.mem_append_left _ (List.mem_of_getElem? (i := 115) rfl)), rfl⟩
theorem zw_168 : (.fieldLink "PlainSteps$Program" 27 "PlainSteps$Program" "values" "[I" : Cond) ∈ zq_W := List.mem_filter.mpr ⟨List.mem_append_right _ (List.mem_append_left _ (List.mem_of_getElem? (i := 109) rfl)), rfl⟩
theorem zw_169 : (.fieldLink "PlainSteps$Program" 30 "PlainSteps$Program" "ways" "[I" : Cond) ∈ zq_W := List.mem_filter.mpr ⟨List.mem_append_right _ (List.mem_append_left _ (List.mem_of_getElem? (i := 110) rfl)), rfl⟩
theorem zw_170 : (.fieldLink "PlainSteps$Program" 33 "PlainSteps$Program" "starts" "[I" : Cond) ∈ zq_W := List.mem_filter.mpr ⟨List.mem_append_right _ (List.mem_append_left _ (List.mem_of_getElem? (i := 111) rfl)), rfl⟩
theorem zw_171 : (.fieldLink "PlainSteps$Program" 36 "PlainSteps$Program" "ends" "[I" : Cond) ∈ zq_W := List.mem_filter.mpr ⟨List.mem_append_right _ (List.mem_append_left _ (List.mem_of_getElem? (i := 113) rfl)), rfl⟩
theorem zw_172 : (.fieldLink "PlainSteps$Kept" 18 "PlainSteps$Kept" "count" "I" : Cond) ∈ zq_W := List.mem_filter.mpr ⟨List.mem_append_right _ (List.mem_append_left _ (List.mem_of_getElem? (i := 148) rfl)), rfl⟩
theorem zw_173 : (.fieldLink "PlainSteps$Kept" 9 "PlainSteps$Kept" "places" "[I" : Cond) ∈ zq_W := List.mem_filter.mpr ⟨List.mem_append_right _ (List.mem_append_left _ (List.mem_of_getElem? (i := 146) rfl)), rfl⟩
theorem zw_174 : (.fieldLink "PlainSteps$Kept" 15 "PlainSteps$Kept" "levels" "[I" : Cond) ∈ zq_W := List.mem_filter.mpr ⟨List.mem_append_right _ (List.mem_append_left _ (List.mem_of_getElem? (i := 147) rfl)), rfl⟩
theorem zw_175 : (.fieldLink "PlainSteps$Kept" 22 "PlainSteps$Kept" "level" "I" : Cond) ∈ zq_W := List.mem_filter.mpr ⟨List.mem_append_right _ (List.mem_append_left _ (List.mem_of_getElem? (i := 153) rfl)), rfl⟩
theorem zw_176 : (.fieldLink "PlainSteps$Lines" 9 "PlainSteps$Lines" "on" "[Z" : Cond) ∈ zq_W := List.mem_filter.mpr ⟨List.mem_append_right _ (List.mem_append_left _ (List.mem_of_getElem? (i := 170) rfl)), rfl⟩
theorem zw_177 : (.fieldLink "PlainSteps$Lines" 15 "PlainSteps$Lines" "ranks" "[I" : Cond) ∈ zq_W := List.mem_filter.mpr ⟨List.mem_append_right _ (List.mem_append_left _ (List.mem_of_getElem? (i := 171) rfl)), rfl⟩
theorem zw_178 : (.fieldLink "PlainSteps$Writes" 30 "PlainSteps$Writes" "count" "I" : Cond) ∈ zq_W := List.mem_filter.mpr ⟨List.mem_append_right _ (List.mem_append_left _ (List.mem_of_getElem? (i := 194) rfl)), rfl⟩
theorem zw_179 : (.fieldLink "PlainSteps$Writes" 9 "PlainSteps$Writes" "forms" "[I" : Cond) ∈ zq_W := List.mem_filter.mpr ⟨List.mem_append_right _ (List.mem_append_left _ (List.mem_of_getElem? (i := 191) rfl)), rfl⟩
theorem zw_180 : (.fieldLink "PlainSteps$Writes" 15 "PlainSteps$Writes" "targets" "[I" : Cond) ∈ zq_W := List.mem_filter.mpr ⟨List.mem_append_right _ (List.mem_append_left _ (List.mem_of_getElem? (i := 192) rfl)), rfl⟩
theorem zw_181 : (.fieldLink "PlainSteps$Writes" 18 "PlainSteps$Writes" "values" "[J" : Cond) ∈ zq_W := List.mem_filter.mpr ⟨List.mem_append_right _ (List.mem_append_left _ (List.mem_of_getElem? (i := 193) rfl)), rfl⟩
theorem zw_182 : (.fieldLink "PlainSteps$Writes" 22 "PlainSteps$Writes" "registers" "LPlainSteps$Registers;" : Cond) ∈ zq_W := List.mem_filter.mpr ⟨List.mem_append_right _ (List.mem_append_left _ (List.mem_of_getElem? (i := 189) rfl)), rfl⟩
theorem zw_183 : (.methodLink "PlainSteps$Writes" 47 zy_Registers_isMarked : Cond) ∈ zq_W := List.mem_filter.mpr ⟨List.mem_append_right _ (List.mem_append_right _ (List.mem_append_right _ (List.mem_append_left _ (List.mem_of_getElem? (i := 202) rfl)))), rfl⟩
theorem zw_184 : (.fieldLink "PlainSteps$Writes" 26 "PlainSteps$Writes" "bytes" "LPlainSteps$Bytes;" : Cond) ∈ zq_W := List.mem_filter.mpr ⟨List.mem_append_right _ (List.mem_append_left _ (List.mem_of_getElem? (i := 190) rfl)), rfl⟩
theorem zw_185 : (.methodLink "PlainSteps$Writes" 44 zy_Bytes_wordOf : Cond) ∈ zq_W := List.mem_filter.mpr ⟨List.mem_append_right _ (List.mem_append_right _ (List.mem_append_right _ (List.mem_append_left _ (List.mem_of_getElem? (i := 201) rfl)))), rfl⟩
theorem zw_186 : (.instanceMethod zy_Bytes_wordOf : Cond) ∈ zq_W := List.mem_filter.mpr ⟨List.mem_append_right _ (List.mem_append_right _ (List.mem_append_right _ (List.mem_append_left _ (List.mem_of_getElem? (i := 129) rfl)))), rfl⟩
theorem zw_187 : (.selects "PlainSteps$Bytes" zy_Bytes_wordOf zy_Bytes_wordOf : Cond) ∈ zq_W := List.mem_filter.mpr ⟨List.mem_append_right _ (List.mem_append_right _ (List.mem_append_right _ (List.mem_append_left _ (List.mem_of_getElem? (i := 130) rfl)))), rfl⟩
theorem zw_188 : (.code zy_Bytes_wordOf zb_Bytes_wordOf 2 (some .int) : Cond) ∈ zq_W := List.mem_filter.mpr ⟨List.mem_append_right _ (List.mem_append_right _ (List.mem_append_right _ (List.mem_append_left _ (List.mem_of_getElem? (i := 131) rfl)))), rfl⟩
theorem zw_189 : (.methodLink "PlainSteps$Writes" 40 zy_Writes_note : Cond) ∈ zq_W := List.mem_filter.mpr ⟨List.mem_append_right _ (List.mem_append_right _ (List.mem_append_right _ (List.mem_append_left _ (List.mem_of_getElem? (i := 200) rfl)))), rfl⟩
theorem zw_190 : (.instanceMethod zy_Writes_note : Cond) ∈ zq_W := List.mem_filter.mpr ⟨List.mem_append_right _ (List.mem_append_right _ (List.mem_append_right _ (List.mem_append_left _ (List.mem_of_getElem? (i := 192) rfl)))), rfl⟩
theorem zw_191 : (.selects "PlainSteps$Writes" zy_Writes_note zy_Writes_note : Cond) ∈ zq_W := List.mem_filter.mpr ⟨List.mem_append_right _ (List.mem_append_right _ (List.mem_append_right _ (List.mem_append_left _ (List.mem_of_getElem? (i := 193) rfl)))), rfl⟩
theorem zw_192 : (.initialized "PlainSteps$Writes" : Cond) ∈ zq_W := List.mem_filter.mpr ⟨List.mem_append_right _ (List.mem_append_left _ (List.mem_of_getElem? (i := 9) rfl)), rfl⟩
theorem zw_193 : (.code zy_Writes_note zb_Writes_note 5 none : Cond) ∈ zq_W := List.mem_filter.mpr ⟨List.mem_append_right _ (List.mem_append_right _ (List.mem_append_right _ (List.mem_append_left _ (List.mem_of_getElem? (i := 194) rfl)))), rfl⟩
theorem zw_194 : (.methodLink "PlainSteps$Writes" 34 zy_Bytes_byteOf : Cond) ∈ zq_W := List.mem_filter.mpr ⟨List.mem_append_right _ (List.mem_append_right _ (List.mem_append_right _ (List.mem_append_left _ (List.mem_of_getElem? (i := 199) rfl)))), rfl⟩
theorem zw_195 : (.instanceMethod zy_Bytes_byteOf : Cond) ∈ zq_W := List.mem_filter.mpr ⟨List.mem_append_right _ (List.mem_append_right _ (List.mem_append_right _ (List.mem_append_left _ (List.mem_of_getElem? (i := 39) rfl)))), rfl⟩
theorem zw_196 : (.selects "PlainSteps$Bytes" zy_Bytes_byteOf zy_Bytes_byteOf : Cond) ∈ zq_W := List.mem_filter.mpr ⟨List.mem_append_right _ (List.mem_append_right _ (List.mem_append_right _ (List.mem_append_left _ (List.mem_of_getElem? (i := 40) rfl)))), rfl⟩
theorem zw_197 : (.code zy_Bytes_byteOf zb_Bytes_byteOf 2 (some .int) : Cond) ∈ zq_W := List.mem_filter.mpr ⟨List.mem_append_right _ (List.mem_append_right _ (List.mem_append_right _ (List.mem_append_left _ (List.mem_of_getElem? (i := 41) rfl)))), rfl⟩
theorem zw_198 : (.methodLink "PlainSteps$Writes" 53 zy_Registers_valueOf : Cond) ∈ zq_W := List.mem_filter.mpr ⟨List.mem_append_right _ (List.mem_append_right _ (List.mem_append_right _ (List.mem_append_left _ (List.mem_of_getElem? (i := 203) rfl)))), rfl⟩
theorem zw_199 : (.methodLink "PlainSteps$Writes" 64 zy_Registers_put : Cond) ∈ zq_W := List.mem_filter.mpr ⟨List.mem_append_right _ (List.mem_append_right _ (List.mem_append_right _ (List.mem_append_left _ (List.mem_of_getElem? (i := 213) rfl)))), rfl⟩
theorem zw_200 : (.methodLink "PlainSteps$Writes" 57 zy_Bytes_putByte : Cond) ∈ zq_W := List.mem_filter.mpr ⟨List.mem_append_right _ (List.mem_append_right _ (List.mem_append_right _ (List.mem_append_left _ (List.mem_of_getElem? (i := 208) rfl)))), rfl⟩
theorem zw_201 : (.instanceMethod zy_Bytes_putByte : Cond) ∈ zq_W := List.mem_filter.mpr ⟨List.mem_append_right _ (List.mem_append_right _ (List.mem_append_right _ (List.mem_append_left _ (List.mem_of_getElem? (i := 43) rfl)))), rfl⟩
theorem zw_202 : (.selects "PlainSteps$Bytes" zy_Bytes_putByte zy_Bytes_putByte : Cond) ∈ zq_W := List.mem_filter.mpr ⟨List.mem_append_right _ (List.mem_append_right _ (List.mem_append_right _ (List.mem_append_left _ (List.mem_of_getElem? (i := 44) rfl)))), rfl⟩
theorem zw_203 : (.code zy_Bytes_putByte zb_Bytes_putByte 4 none : Cond) ∈ zq_W := List.mem_filter.mpr ⟨List.mem_append_right _ (List.mem_append_right _ (List.mem_append_right _ (List.mem_append_left _ (List.mem_of_getElem? (i := 45) rfl)))), rfl⟩
theorem zw_204 : (.methodLink "PlainSteps$Writes" 61 zy_Bytes_putWord : Cond) ∈ zq_W := List.mem_filter.mpr ⟨List.mem_append_right _ (List.mem_append_right _ (List.mem_append_right _ (List.mem_append_left _ (List.mem_of_getElem? (i := 209) rfl)))), rfl⟩
theorem zw_205 : (.instanceMethod zy_Bytes_putWord : Cond) ∈ zq_W := List.mem_filter.mpr ⟨List.mem_append_right _ (List.mem_append_right _ (List.mem_append_right _ (List.mem_append_left _ (List.mem_of_getElem? (i := 210) rfl)))), rfl⟩
theorem zw_206 : (.selects "PlainSteps$Bytes" zy_Bytes_putWord zy_Bytes_putWord : Cond) ∈ zq_W := List.mem_filter.mpr ⟨List.mem_append_right _ (List.mem_append_right _ (List.mem_append_right _ (List.mem_append_left _ (List.mem_of_getElem? (i := 211) rfl)))), rfl⟩
theorem zw_207 : (.code zy_Bytes_putWord zb_Bytes_putWord 4 none : Cond) ∈ zq_W := List.mem_filter.mpr ⟨List.mem_append_right _ (List.mem_append_right _ (List.mem_append_right _ (List.mem_append_left _ (List.mem_of_getElem? (i := 212) rfl)))), rfl⟩
theorem zw_208 : (.methodLink "PlainSteps$Writes" 68 zy_Writes_perform : Cond) ∈ zq_W := List.mem_filter.mpr ⟨List.mem_append_right _ (List.mem_append_right _ (List.mem_append_right _ (List.mem_append_right _ (List.mem_append_left _ (List.mem_of_getElem? (i := 8) rfl))))), rfl⟩
theorem zw_209 : (.instanceMethod zy_Writes_perform : Cond) ∈ zq_W := List.mem_filter.mpr ⟨List.mem_append_right _ (List.mem_append_right _ (List.mem_append_right _ (List.mem_append_left _ (List.mem_of_getElem? (i := 205) rfl)))), rfl⟩
theorem zw_210 : (.selects "PlainSteps$Writes" zy_Writes_perform zy_Writes_perform : Cond) ∈ zq_W := List.mem_filter.mpr ⟨List.mem_append_right _ (List.mem_append_right _ (List.mem_append_right _ (List.mem_append_left _ (List.mem_of_getElem? (i := 206) rfl)))), rfl⟩
theorem zw_211 : (.code zy_Writes_perform zb_Writes_perform 5 none : Cond) ∈ zq_W := List.mem_filter.mpr ⟨List.mem_append_right _ (List.mem_append_right _ (List.mem_append_right _ (List.mem_append_left _ (List.mem_of_getElem? (i := 207) rfl)))), rfl⟩
theorem zw_212 : (.fieldLink "PlainSteps$Work" 85 "PlainSteps$Work" "word" "I" : Cond) ∈ zq_W := List.mem_filter.mpr ⟨List.mem_append_right _ (List.mem_append_left _ (List.mem_of_getElem? (i := 215) rfl)), rfl⟩
theorem zw_213 : (.fieldLink "PlainSteps$Work" 23 "PlainSteps$Work" "program" "LPlainSteps$Program;" : Cond) ∈ zq_W := List.mem_filter.mpr ⟨List.mem_append_right _ (List.mem_append_left _ (List.mem_of_getElem? (i := 211) rfl)), rfl⟩
theorem zw_214 : (.methodLink "PlainSteps$Work" 88 zy_Program_is : Cond) ∈ zq_W := List.mem_filter.mpr ⟨List.mem_append_right _ (List.mem_append_right _ (List.mem_append_right _ (List.mem_append_left _ (List.mem_of_getElem? (i := 144) rfl)))), rfl⟩
theorem zw_215 : (.instanceMethod zy_Program_is : Cond) ∈ zq_W := List.mem_filter.mpr ⟨List.mem_append_right _ (List.mem_append_right _ (List.mem_append_right _ (List.mem_append_left _ (List.mem_of_getElem? (i := 145) rfl)))), rfl⟩
theorem zw_216 : (.selects "PlainSteps$Program" zy_Program_is zy_Program_is : Cond) ∈ zq_W := List.mem_filter.mpr ⟨List.mem_append_right _ (List.mem_append_right _ (List.mem_append_right _ (List.mem_append_left _ (List.mem_of_getElem? (i := 146) rfl)))), rfl⟩
theorem zw_217 : (.initialized "PlainSteps$Program" : Cond) ∈ zq_W := List.mem_filter.mpr ⟨List.mem_append_right _ (List.mem_append_left _ (List.mem_of_getElem? (i := 5) rfl)), rfl⟩
theorem zw_218 : (.code zy_Program_is zb_Program_is 3 (some .boolean) : Cond) ∈ zq_W := List.mem_filter.mpr ⟨List.mem_append_right _ (List.mem_append_right _ (List.mem_append_right _ (List.mem_append_left _ (List.mem_of_getElem? (i := 147) rfl)))), rfl⟩
theorem zw_219 : (.fieldLink "PlainSteps$Work" 92 "PlainSteps$Work" "parallel" "Z" : Cond) ∈ zq_W := List.mem_filter.mpr ⟨List.mem_append_right _ (List.mem_append_left _ (List.mem_of_getElem? (i := 216) rfl)), rfl⟩
theorem zw_220 : (.fieldLink "PlainSteps$Work" 76 "PlainSteps$Work" "restoring" "Z" : Cond) ∈ zq_W := List.mem_filter.mpr ⟨List.mem_append_right _ (List.mem_append_left _ (List.mem_of_getElem? (i := 217) rfl)), rfl⟩
theorem zw_221 : (.fieldLink "PlainSteps$Work" 95 "PlainSteps$Work" "wrotePlace" "Z" : Cond) ∈ zq_W := List.mem_filter.mpr ⟨List.mem_append_right _ (List.mem_append_left _ (List.mem_of_getElem? (i := 218) rfl)), rfl⟩
theorem zw_222 : (.fieldLink "PlainSteps$Work" 65 "PlainSteps$Work" "ended" "Z" : Cond) ∈ zq_W := List.mem_filter.mpr ⟨List.mem_append_right _ (List.mem_append_left _ (List.mem_of_getElem? (i := 220) rfl)), rfl⟩
theorem zw_223 : (.fieldLink "PlainSteps$Work" 98 "PlainSteps$Work" "halts" "Z" : Cond) ∈ zq_W := List.mem_filter.mpr ⟨List.mem_append_right _ (List.mem_append_left _ (List.mem_of_getElem? (i := 221) rfl)), rfl⟩
theorem zw_224 : (.fieldLink "PlainSteps$Work" 101 "PlainSteps$Work" "backPlace" "I" : Cond) ∈ zq_W := List.mem_filter.mpr ⟨List.mem_append_right _ (List.mem_append_left _ (List.mem_of_getElem? (i := 223) rfl)), rfl⟩
theorem zw_225 : (.fieldLink "PlainSteps$Work" 40 "PlainSteps$Work" "writes" "LPlainSteps$Writes;" : Cond) ∈ zq_W := List.mem_filter.mpr ⟨List.mem_append_right _ (List.mem_append_left _ (List.mem_of_getElem? (i := 213) rfl)), rfl⟩
theorem zw_226 : (.methodLink "PlainSteps$Work" 104 zy_Writes_clear : Cond) ∈ zq_W := List.mem_filter.mpr ⟨List.mem_append_right _ (List.mem_append_right _ (List.mem_append_right _ (List.mem_append_left _ (List.mem_of_getElem? (i := 148) rfl)))), rfl⟩
theorem zw_227 : (.instanceMethod zy_Writes_clear : Cond) ∈ zq_W := List.mem_filter.mpr ⟨List.mem_append_right _ (List.mem_append_right _ (List.mem_append_right _ (List.mem_append_left _ (List.mem_of_getElem? (i := 149) rfl)))), rfl⟩
theorem zw_228 : (.selects "PlainSteps$Writes" zy_Writes_clear zy_Writes_clear : Cond) ∈ zq_W := List.mem_filter.mpr ⟨List.mem_append_right _ (List.mem_append_right _ (List.mem_append_right _ (List.mem_append_left _ (List.mem_of_getElem? (i := 150) rfl)))), rfl⟩
theorem zw_229 : (.code zy_Writes_clear zb_Writes_clear 1 none : Cond) ∈ zq_W := List.mem_filter.mpr ⟨List.mem_append_right _ (List.mem_append_right _ (List.mem_append_right _ (List.mem_append_left _ (List.mem_of_getElem? (i := 151) rfl)))), rfl⟩
theorem zw_230 : (.constantLong "PlainSteps$Work" 202 (-9223372036854775808) : Cond) ∈ zq_W := List.mem_filter.mpr ⟨List.mem_append_right _ (List.mem_append_right _ (List.mem_append_right _ (List.mem_append_left _ (List.mem_of_getElem? (i := 186) rfl)))), rfl⟩
theorem zw_231 : (.methodLink "PlainSteps$Work" 198 zy_Work_isBelow : Cond) ∈ zq_W := List.mem_filter.mpr ⟨List.mem_append_right _ (List.mem_append_right _ (List.mem_append_right _ (List.mem_append_left _ (List.mem_of_getElem? (i := 183) rfl)))), rfl⟩
theorem zw_232 : (.static zy_Work_isBelow : Cond) ∈ zq_W := List.mem_filter.mpr ⟨List.mem_append_right _ (List.mem_append_right _ (List.mem_append_right _ (List.mem_append_left _ (List.mem_of_getElem? (i := 184) rfl)))), rfl⟩
theorem zw_233 : (.initialized "PlainSteps$Work" : Cond) ∈ zq_W := List.mem_filter.mpr ⟨List.mem_append_right _ (List.mem_append_left _ (List.mem_of_getElem? (i := 8) rfl)), rfl⟩
theorem zw_234 : (.code zy_Work_isBelow zb_Work_isBelow 4 (some .boolean) : Cond) ∈ zq_W := List.mem_filter.mpr ⟨List.mem_append_right _ (List.mem_append_right _ (List.mem_append_right _ (List.mem_append_left _ (List.mem_of_getElem? (i := 185) rfl)))), rfl⟩
theorem zw_235 : (.methodLink "PlainSteps$Work" 190 zy_Writes_noteReverse : Cond) ∈ zq_W := List.mem_filter.mpr ⟨List.mem_append_right _ (List.mem_append_right _ (List.mem_append_right _ (List.mem_append_left _ (List.mem_of_getElem? (i := 195) rfl)))), rfl⟩
theorem zw_236 : (.instanceMethod zy_Writes_noteReverse : Cond) ∈ zq_W := List.mem_filter.mpr ⟨List.mem_append_right _ (List.mem_append_right _ (List.mem_append_right _ (List.mem_append_left _ (List.mem_of_getElem? (i := 196) rfl)))), rfl⟩
theorem zw_237 : (.selects "PlainSteps$Writes" zy_Writes_noteReverse zy_Writes_noteReverse : Cond) ∈ zq_W := List.mem_filter.mpr ⟨List.mem_append_right _ (List.mem_append_right _ (List.mem_append_right _ (List.mem_append_left _ (List.mem_of_getElem? (i := 197) rfl)))), rfl⟩
theorem zw_238 : (.code zy_Writes_noteReverse zb_Writes_noteReverse 3 none : Cond) ∈ zq_W := List.mem_filter.mpr ⟨List.mem_append_right _ (List.mem_append_right _ (List.mem_append_right _ (List.mem_append_left _ (List.mem_of_getElem? (i := 198) rfl)))), rfl⟩
theorem zw_239 : (.methodLink "PlainSteps$Work" 187 zy_Writes_note : Cond) ∈ zq_W := List.mem_filter.mpr ⟨List.mem_append_right _ (List.mem_append_right _ (List.mem_append_right _ (List.mem_append_left _ (List.mem_of_getElem? (i := 191) rfl)))), rfl⟩
theorem zw_240 : (.methodLink "PlainSteps$Work" 193 zy_Writes_perform : Cond) ∈ zq_W := List.mem_filter.mpr ⟨List.mem_append_right _ (List.mem_append_right _ (List.mem_append_right _ (List.mem_append_left _ (List.mem_of_getElem? (i := 204) rfl)))), rfl⟩
theorem zw_241 : (.methodLink "PlainSteps$Work" 167 zy_Work_quotient : Cond) ∈ zq_W := List.mem_filter.mpr ⟨List.mem_append_right _ (List.mem_append_right _ (List.mem_append_right _ (List.mem_append_left _ (List.mem_of_getElem? (i := 180) rfl)))), rfl⟩
theorem zw_242 : (.static zy_Work_quotient : Cond) ∈ zq_W := List.mem_filter.mpr ⟨List.mem_append_right _ (List.mem_append_right _ (List.mem_append_right _ (List.mem_append_left _ (List.mem_of_getElem? (i := 181) rfl)))), rfl⟩
theorem zw_243 : (.code zy_Work_quotient zb_Work_quotient 6 (some .long) : Cond) ∈ zq_W := List.mem_filter.mpr ⟨List.mem_append_right _ (List.mem_append_right _ (List.mem_append_right _ (List.mem_append_left _ (List.mem_of_getElem? (i := 182) rfl)))), rfl⟩
theorem zw_244 : (.methodLink "PlainSteps$Work" 155 zy_Work_write : Cond) ∈ zq_W := List.mem_filter.mpr ⟨List.mem_append_right _ (List.mem_append_right _ (List.mem_append_right _ (List.mem_append_left _ (List.mem_of_getElem? (i := 187) rfl)))), rfl⟩
theorem zw_245 : (.instanceMethod zy_Work_write : Cond) ∈ zq_W := List.mem_filter.mpr ⟨List.mem_append_right _ (List.mem_append_right _ (List.mem_append_right _ (List.mem_append_left _ (List.mem_of_getElem? (i := 189) rfl)))), rfl⟩
theorem zw_246 : (.selects "PlainSteps$Work" zy_Work_write zy_Work_write : Cond) ∈ zq_W := List.mem_filter.mpr ⟨List.mem_append_left _ (List.mem_of_getElem? (i := 7) rfl), rfl⟩
theorem zw_247 : (.code zy_Work_write zb_Work_write 5 none : Cond) ∈ zq_W := List.mem_filter.mpr ⟨List.mem_append_right _ (List.mem_append_right _ (List.mem_append_right _ (List.mem_append_left _ (List.mem_of_getElem? (i := 190) rfl)))), rfl⟩
theorem zw_248 : (.fieldLink "PlainSteps$Work" 15 "PlainSteps$Work" "bytes" "LPlainSteps$Bytes;" : Cond) ∈ zq_W := List.mem_filter.mpr ⟨List.mem_append_right _ (List.mem_append_left _ (List.mem_of_getElem? (i := 209) rfl)), rfl⟩
theorem zw_249 : (.methodLink "PlainSteps$Work" 177 zy_Bytes_hasByte : Cond) ∈ zq_W := List.mem_filter.mpr ⟨List.mem_append_right _ (List.mem_append_right _ (List.mem_append_right _ (List.mem_append_left _ (List.mem_of_getElem? (i := 219) rfl)))), rfl⟩
theorem zw_250 : (.methodLink "PlainSteps$Work" 171 zy_Bytes_hasWord : Cond) ∈ zq_W := List.mem_filter.mpr ⟨List.mem_append_right _ (List.mem_append_right _ (List.mem_append_right _ (List.mem_append_left _ (List.mem_of_getElem? (i := 218) rfl)))), rfl⟩
theorem zw_251 : (.instanceMethod zy_Bytes_hasWord : Cond) ∈ zq_W := List.mem_filter.mpr ⟨List.mem_append_right _ (List.mem_append_right _ (List.mem_append_right _ (List.mem_append_left _ (List.mem_of_getElem? (i := 115) rfl)))), rfl⟩
theorem zw_252 : (.selects "PlainSteps$Bytes" zy_Bytes_hasWord zy_Bytes_hasWord : Cond) ∈ zq_W := List.mem_filter.mpr ⟨List.mem_append_right _ (List.mem_append_right _ (List.mem_append_right _ (List.mem_append_left _ (List.mem_of_getElem? (i := 116) rfl)))), rfl⟩
theorem zw_253 : (.code zy_Bytes_hasWord zb_Bytes_hasWord 3 (some .boolean) : Cond) ∈ zq_W := List.mem_filter.mpr ⟨List.mem_append_right _ (List.mem_append_right _ (List.mem_append_right _ (List.mem_append_left _ (List.mem_of_getElem? (i := 117) rfl)))), rfl⟩
theorem zw_254 : (.fieldLink "PlainSteps$Work" 31 "PlainSteps$Work" "counts" "[I" : Cond) ∈ zq_W := List.mem_filter.mpr ⟨List.mem_append_right _ (List.mem_append_left _ (List.mem_of_getElem? (i := 214) rfl)), rfl⟩
theorem zw_255 : (.methodLink "PlainSteps$Work" 183 zy_Bytes_byteOf : Cond) ∈ zq_W := List.mem_filter.mpr ⟨List.mem_append_right _ (List.mem_append_right _ (List.mem_append_right _ (List.mem_append_left _ (List.mem_of_getElem? (i := 221) rfl)))), rfl⟩
theorem zw_256 : (.methodLink "PlainSteps$Work" 180 zy_Bytes_wordOf : Cond) ∈ zq_W := List.mem_filter.mpr ⟨List.mem_append_right _ (List.mem_append_right _ (List.mem_append_right _ (List.mem_append_left _ (List.mem_of_getElem? (i := 220) rfl)))), rfl⟩
theorem zw_257 : (.fieldLink "PlainSteps$Work" 27 "PlainSteps$Work" "kept" "LPlainSteps$Kept;" : Cond) ∈ zq_W := List.mem_filter.mpr ⟨List.mem_append_right _ (List.mem_append_left _ (List.mem_of_getElem? (i := 212) rfl)), rfl⟩
theorem zw_258 : (.methodLink "PlainSteps$Work" 186 zy_Kept_goBack : Cond) ∈ zq_W := List.mem_filter.mpr ⟨List.mem_append_right _ (List.mem_append_right _ (List.mem_append_right _ (List.mem_append_left _ (List.mem_of_getElem? (i := 231) rfl)))), rfl⟩
theorem zw_259 : (.instanceMethod zy_Kept_goBack : Cond) ∈ zq_W := List.mem_filter.mpr ⟨List.mem_append_right _ (List.mem_append_right _ (List.mem_append_right _ (List.mem_append_left _ (List.mem_of_getElem? (i := 232) rfl)))), rfl⟩
theorem zw_260 : (.selects "PlainSteps$Kept" zy_Kept_goBack zy_Kept_goBack : Cond) ∈ zq_W := List.mem_filter.mpr ⟨List.mem_append_right _ (List.mem_append_right _ (List.mem_append_right _ (List.mem_append_left _ (List.mem_of_getElem? (i := 233) rfl)))), rfl⟩
theorem zw_261 : (.initialized "PlainSteps$Kept" : Cond) ∈ zq_W := List.mem_filter.mpr ⟨List.mem_append_right _ (List.mem_append_left _ (List.mem_of_getElem? (i := 6) rfl)), rfl⟩
theorem zw_262 : (.code zy_Kept_goBack zb_Kept_goBack 1 (some .int) : Cond) ∈ zq_W := List.mem_filter.mpr ⟨List.mem_append_right _ (List.mem_append_right _ (List.mem_append_right _ (List.mem_append_left _ (List.mem_of_getElem? (i := 234) rfl)))), rfl⟩
theorem zw_263 : (.constantLong "PlainSteps$Work" 196 (63) : Cond) ∈ zq_W := List.mem_filter.mpr ⟨List.mem_append_right _ (List.mem_append_right _ (List.mem_append_right _ (List.mem_append_left _ (List.mem_of_getElem? (i := 238) rfl)))), rfl⟩
theorem zw_264 : (.fieldLink "PlainSteps$Work" 19 "PlainSteps$Work" "operands" "LPlainSteps$Operands;" : Cond) ∈ zq_W := List.mem_filter.mpr ⟨List.mem_append_right _ (List.mem_append_left _ (List.mem_of_getElem? (i := 210) rfl)), rfl⟩
theorem zw_265 : (.methodLink "PlainSteps$Work" 128 zy_Operands_read : Cond) ∈ zq_W := List.mem_filter.mpr ⟨List.mem_append_right _ (List.mem_append_right _ (List.mem_append_right _ (List.mem_append_left _ (List.mem_of_getElem? (i := 156) rfl)))), rfl⟩
theorem zw_266 : (.instanceMethod zy_Operands_read : Cond) ∈ zq_W := List.mem_filter.mpr ⟨List.mem_append_right _ (List.mem_append_right _ (List.mem_append_right _ (List.mem_append_left _ (List.mem_of_getElem? (i := 157) rfl)))), rfl⟩
theorem zw_267 : (.selects "PlainSteps$Operands" zy_Operands_read zy_Operands_read : Cond) ∈ zq_W := List.mem_filter.mpr ⟨List.mem_append_right _ (List.mem_append_right _ (List.mem_append_right _ (List.mem_append_left _ (List.mem_of_getElem? (i := 158) rfl)))), rfl⟩
theorem zw_268 : (.code zy_Operands_read zb_Operands_read 3 (some .long) : Cond) ∈ zq_W := List.mem_filter.mpr ⟨List.mem_append_right _ (List.mem_append_right _ (List.mem_append_right _ (List.mem_append_left _ (List.mem_of_getElem? (i := 159) rfl)))), rfl⟩
theorem zw_269 : (.methodLink "PlainSteps$Work" 137 zy_Operands_isMarked : Cond) ∈ zq_W := List.mem_filter.mpr ⟨List.mem_append_right _ (List.mem_append_right _ (List.mem_append_right _ (List.mem_append_left _ (List.mem_of_getElem? (i := 168) rfl)))), rfl⟩
theorem zw_270 : (.instanceMethod zy_Operands_isMarked : Cond) ∈ zq_W := List.mem_filter.mpr ⟨List.mem_append_right _ (List.mem_append_right _ (List.mem_append_right _ (List.mem_append_left _ (List.mem_of_getElem? (i := 169) rfl)))), rfl⟩
theorem zw_271 : (.selects "PlainSteps$Operands" zy_Operands_isMarked zy_Operands_isMarked : Cond) ∈ zq_W := List.mem_filter.mpr ⟨List.mem_append_right _ (List.mem_append_right _ (List.mem_append_right _ (List.mem_append_left _ (List.mem_of_getElem? (i := 170) rfl)))), rfl⟩
theorem zw_272 : (.code zy_Operands_isMarked zb_Operands_isMarked 2 (some .boolean) : Cond) ∈ zq_W := List.mem_filter.mpr ⟨List.mem_append_right _ (List.mem_append_right _ (List.mem_append_right _ (List.mem_append_left _ (List.mem_of_getElem? (i := 171) rfl)))), rfl⟩
theorem zw_273 : (.constantLong "PlainSteps$Work" 153 (7) : Cond) ∈ zq_W := List.mem_filter.mpr ⟨List.mem_append_right _ (List.mem_append_right _ (List.mem_append_right _ (List.mem_append_left _ (List.mem_of_getElem? (i := 226) rfl)))), rfl⟩
theorem zw_274 : (.methodLink "PlainSteps$Work" 159 zy_Work_goBack : Cond) ∈ zq_W := List.mem_filter.mpr ⟨List.mem_append_right _ (List.mem_append_right _ (List.mem_append_right _ (List.mem_append_left _ (List.mem_of_getElem? (i := 227) rfl)))), rfl⟩
theorem zw_275 : (.instanceMethod zy_Work_goBack : Cond) ∈ zq_W := List.mem_filter.mpr ⟨List.mem_append_right _ (List.mem_append_right _ (List.mem_append_right _ (List.mem_append_left _ (List.mem_of_getElem? (i := 229) rfl)))), rfl⟩
theorem zw_276 : (.selects "PlainSteps$Work" zy_Work_goBack zy_Work_goBack : Cond) ∈ zq_W := List.mem_filter.mpr ⟨List.mem_append_left _ (List.mem_of_getElem? (i := 10) rfl), rfl⟩
theorem zw_277 : (.code zy_Work_goBack zb_Work_goBack 2 (some .int) : Cond) ∈ zq_W := List.mem_filter.mpr ⟨List.mem_append_right _ (List.mem_append_right _ (List.mem_append_right _ (List.mem_append_left _ (List.mem_of_getElem? (i := 230) rfl)))), rfl⟩
theorem zw_278 : (.methodLink "PlainSteps$Work" 141 zy_Work_divide : Cond) ∈ zq_W := List.mem_filter.mpr ⟨List.mem_append_right _ (List.mem_append_right _ (List.mem_append_right _ (List.mem_append_left _ (List.mem_of_getElem? (i := 176) rfl)))), rfl⟩
theorem zw_279 : (.instanceMethod zy_Work_divide : Cond) ∈ zq_W := List.mem_filter.mpr ⟨List.mem_append_right _ (List.mem_append_right _ (List.mem_append_right _ (List.mem_append_left _ (List.mem_of_getElem? (i := 178) rfl)))), rfl⟩
theorem zw_280 : (.selects "PlainSteps$Work" zy_Work_divide zy_Work_divide : Cond) ∈ zq_W := List.mem_filter.mpr ⟨List.mem_append_left _ (List.mem_of_getElem? (i := 6) rfl), rfl⟩
theorem zw_281 : (.code zy_Work_divide zb_Work_divide 10 (some .int) : Cond) ∈ zq_W := List.mem_filter.mpr ⟨List.mem_append_right _ (List.mem_append_right _ (List.mem_append_right _ (List.mem_append_left _ (List.mem_of_getElem? (i := 179) rfl)))), rfl⟩
theorem zw_282 : (.methodLink "PlainSteps$Work" 149 zy_Work_store : Cond) ∈ zq_W := List.mem_filter.mpr ⟨List.mem_append_right _ (List.mem_append_right _ (List.mem_append_right _ (List.mem_append_left _ (List.mem_of_getElem? (i := 222) rfl)))), rfl⟩
theorem zw_283 : (.instanceMethod zy_Work_store : Cond) ∈ zq_W := List.mem_filter.mpr ⟨List.mem_append_right _ (List.mem_append_right _ (List.mem_append_right _ (List.mem_append_left _ (List.mem_of_getElem? (i := 224) rfl)))), rfl⟩
theorem zw_284 : (.selects "PlainSteps$Work" zy_Work_store zy_Work_store : Cond) ∈ zq_W := List.mem_filter.mpr ⟨List.mem_append_left _ (List.mem_of_getElem? (i := 9) rfl), rfl⟩
theorem zw_285 : (.code zy_Work_store zb_Work_store 6 (some .int) : Cond) ∈ zq_W := List.mem_filter.mpr ⟨List.mem_append_right _ (List.mem_append_right _ (List.mem_append_right _ (List.mem_append_left _ (List.mem_of_getElem? (i := 225) rfl)))), rfl⟩
theorem zw_286 : (.methodLink "PlainSteps$Work" 163 zy_Work_result : Cond) ∈ zq_W := List.mem_filter.mpr ⟨List.mem_append_right _ (List.mem_append_right _ (List.mem_append_right _ (List.mem_append_left _ (List.mem_of_getElem? (i := 235) rfl)))), rfl⟩
theorem zw_287 : (.static zy_Work_result : Cond) ∈ zq_W := List.mem_filter.mpr ⟨List.mem_append_right _ (List.mem_append_right _ (List.mem_append_right _ (List.mem_append_left _ (List.mem_of_getElem? (i := 236) rfl)))), rfl⟩
theorem zw_288 : (.code zy_Work_result zb_Work_result 5 (some .long) : Cond) ∈ zq_W := List.mem_filter.mpr ⟨List.mem_append_right _ (List.mem_append_right _ (List.mem_append_right _ (List.mem_append_left _ (List.mem_of_getElem? (i := 237) rfl)))), rfl⟩
theorem zw_289 : (.methodLink "PlainSteps$Work" 145 zy_Work_load : Cond) ∈ zq_W := List.mem_filter.mpr ⟨List.mem_append_right _ (List.mem_append_right _ (List.mem_append_right _ (List.mem_append_left _ (List.mem_of_getElem? (i := 214) rfl)))), rfl⟩
theorem zw_290 : (.instanceMethod zy_Work_load : Cond) ∈ zq_W := List.mem_filter.mpr ⟨List.mem_append_right _ (List.mem_append_right _ (List.mem_append_right _ (List.mem_append_left _ (List.mem_of_getElem? (i := 216) rfl)))), rfl⟩
theorem zw_291 : (.selects "PlainSteps$Work" zy_Work_load zy_Work_load : Cond) ∈ zq_W := List.mem_filter.mpr ⟨List.mem_append_left _ (List.mem_of_getElem? (i := 8) rfl), rfl⟩
theorem zw_292 : (.code zy_Work_load zb_Work_load 7 (some .int) : Cond) ∈ zq_W := List.mem_filter.mpr ⟨List.mem_append_right _ (List.mem_append_right _ (List.mem_append_right _ (List.mem_append_left _ (List.mem_of_getElem? (i := 217) rfl)))), rfl⟩
theorem zw_293 : (.methodLink "PlainSteps$Work" 113 zy_Writes_performInOrder : Cond) ∈ zq_W := List.mem_filter.mpr ⟨List.mem_append_right _ (List.mem_append_right _ (List.mem_append_right _ (List.mem_append_right _ (List.mem_append_left _ (List.mem_of_getElem? (i := 4) rfl))))), rfl⟩
theorem zw_294 : (.instanceMethod zy_Writes_performInOrder : Cond) ∈ zq_W := List.mem_filter.mpr ⟨List.mem_append_right _ (List.mem_append_right _ (List.mem_append_right _ (List.mem_append_right _ (List.mem_append_left _ (List.mem_of_getElem? (i := 5) rfl))))), rfl⟩
theorem zw_295 : (.selects "PlainSteps$Writes" zy_Writes_performInOrder zy_Writes_performInOrder : Cond) ∈ zq_W := List.mem_filter.mpr ⟨List.mem_append_right _ (List.mem_append_right _ (List.mem_append_right _ (List.mem_append_right _ (List.mem_append_left _ (List.mem_of_getElem? (i := 6) rfl))))), rfl⟩
theorem zw_296 : (.code zy_Writes_performInOrder zb_Writes_performInOrder 2 none : Cond) ∈ zq_W := List.mem_filter.mpr ⟨List.mem_append_right _ (List.mem_append_right _ (List.mem_append_right _ (List.mem_append_right _ (List.mem_append_left _ (List.mem_of_getElem? (i := 7) rfl))))), rfl⟩
theorem zw_297 : (.fieldLink "PlainSteps$Work" 9 "PlainSteps$Work" "registers" "LPlainSteps$Registers;" : Cond) ∈ zq_W := List.mem_filter.mpr ⟨List.mem_append_right _ (List.mem_append_left _ (List.mem_of_getElem? (i := 208) rfl)), rfl⟩
theorem zw_298 : (.methodLink "PlainSteps$Work" 107 zy_Registers_put : Cond) ∈ zq_W := List.mem_filter.mpr ⟨List.mem_append_right _ (List.mem_append_right _ (List.mem_append_right _ (List.mem_append_right _ (List.mem_append_left _ (List.mem_of_getElem? (i := 3) rfl))))), rfl⟩
theorem zw_299 : (.methodLink "PlainSteps$Work" 116 zy_Writes_performBackwards : Cond) ∈ zq_W := List.mem_filter.mpr ⟨List.mem_append_right _ (List.mem_append_right _ (List.mem_append_right _ (List.mem_append_right _ (List.mem_append_left _ (List.mem_of_getElem? (i := 13) rfl))))), rfl⟩
theorem zw_300 : (.instanceMethod zy_Writes_performBackwards : Cond) ∈ zq_W := List.mem_filter.mpr ⟨List.mem_append_right _ (List.mem_append_right _ (List.mem_append_right _ (List.mem_append_right _ (List.mem_append_left _ (List.mem_of_getElem? (i := 14) rfl))))), rfl⟩
theorem zw_301 : (.selects "PlainSteps$Writes" zy_Writes_performBackwards zy_Writes_performBackwards : Cond) ∈ zq_W := List.mem_filter.mpr ⟨List.mem_append_right _ (List.mem_append_right _ (List.mem_append_right _ (List.mem_append_right _ (List.mem_append_left _ (List.mem_of_getElem? (i := 15) rfl))))), rfl⟩
theorem zw_302 : (.code zy_Writes_performBackwards zb_Writes_performBackwards 2 none : Cond) ∈ zq_W := List.mem_filter.mpr ⟨List.mem_append_right _ (List.mem_append_right _ (List.mem_append_right _ (List.mem_append_right _ (List.mem_append_left _ (List.mem_of_getElem? (i := 16) rfl))))), rfl⟩
theorem zw_303 : (.methodLink "PlainSteps$Work" 44 zy_Work_prepare : Cond) ∈ zq_W := List.mem_filter.mpr ⟨List.mem_append_right _ (List.mem_append_right _ (List.mem_append_right _ (List.mem_append_left _ (List.mem_of_getElem? (i := 140) rfl)))), rfl⟩
theorem zw_304 : (.instanceMethod zy_Work_prepare : Cond) ∈ zq_W := List.mem_filter.mpr ⟨List.mem_append_right _ (List.mem_append_right _ (List.mem_append_right _ (List.mem_append_left _ (List.mem_of_getElem? (i := 142) rfl)))), rfl⟩
theorem zw_305 : (.selects "PlainSteps$Work" zy_Work_prepare zy_Work_prepare : Cond) ∈ zq_W := List.mem_filter.mpr ⟨List.mem_append_left _ (List.mem_of_getElem? (i := 3) rfl), rfl⟩
theorem zw_306 : (.code zy_Work_prepare zb_Work_prepare 3 none : Cond) ∈ zq_W := List.mem_filter.mpr ⟨List.mem_append_right _ (List.mem_append_right _ (List.mem_append_right _ (List.mem_append_left _ (List.mem_of_getElem? (i := 143) rfl)))), rfl⟩
theorem zw_307 : (.methodLink "PlainSteps$Work" 69 zy_Work_doTransfer : Cond) ∈ zq_W := List.mem_filter.mpr ⟨List.mem_append_right _ (List.mem_append_right _ (List.mem_append_right _ (List.mem_append_left _ (List.mem_of_getElem? (i := 152) rfl)))), rfl⟩
theorem zw_308 : (.instanceMethod zy_Work_doTransfer : Cond) ∈ zq_W := List.mem_filter.mpr ⟨List.mem_append_right _ (List.mem_append_right _ (List.mem_append_right _ (List.mem_append_left _ (List.mem_of_getElem? (i := 154) rfl)))), rfl⟩
theorem zw_309 : (.selects "PlainSteps$Work" zy_Work_doTransfer zy_Work_doTransfer : Cond) ∈ zq_W := List.mem_filter.mpr ⟨List.mem_append_left _ (List.mem_of_getElem? (i := 4) rfl), rfl⟩
theorem zw_310 : (.code zy_Work_doTransfer zb_Work_doTransfer 10 (some .int) : Cond) ∈ zq_W := List.mem_filter.mpr ⟨List.mem_append_right _ (List.mem_append_right _ (List.mem_append_right _ (List.mem_append_left _ (List.mem_of_getElem? (i := 155) rfl)))), rfl⟩
theorem zw_311 : (.methodLink "PlainSteps$Work" 79 zy_Work_takeBack : Cond) ∈ zq_W := List.mem_filter.mpr ⟨List.mem_append_right _ (List.mem_append_right _ (List.mem_append_right _ (List.mem_append_right _ (List.mem_append_left _ (List.mem_of_getElem? (i := 9) rfl))))), rfl⟩
theorem zw_312 : (.instanceMethod zy_Work_takeBack : Cond) ∈ zq_W := List.mem_filter.mpr ⟨List.mem_append_right _ (List.mem_append_right _ (List.mem_append_right _ (List.mem_append_right _ (List.mem_append_left _ (List.mem_of_getElem? (i := 11) rfl))))), rfl⟩
theorem zw_313 : (.selects "PlainSteps$Work" zy_Work_takeBack zy_Work_takeBack : Cond) ∈ zq_W := List.mem_filter.mpr ⟨List.mem_append_left _ (List.mem_of_getElem? (i := 12) rfl), rfl⟩
theorem zw_314 : (.code zy_Work_takeBack zb_Work_takeBack 1 none : Cond) ∈ zq_W := List.mem_filter.mpr ⟨List.mem_append_right _ (List.mem_append_right _ (List.mem_append_right _ (List.mem_append_right _ (List.mem_append_left _ (List.mem_of_getElem? (i := 12) rfl))))), rfl⟩
theorem zw_315 : (.methodLink "PlainSteps$Work" 82 zy_Kept_restore : Cond) ∈ zq_W := List.mem_filter.mpr ⟨List.mem_append_right _ (List.mem_append_right _ (List.mem_append_right _ (List.mem_append_right _ (List.mem_append_left _ (List.mem_of_getElem? (i := 17) rfl))))), rfl⟩
theorem zw_316 : (.instanceMethod zy_Kept_restore : Cond) ∈ zq_W := List.mem_filter.mpr ⟨List.mem_append_right _ (List.mem_append_right _ (List.mem_append_right _ (List.mem_append_right _ (List.mem_append_left _ (List.mem_of_getElem? (i := 18) rfl))))), rfl⟩
theorem zw_317 : (.selects "PlainSteps$Kept" zy_Kept_restore zy_Kept_restore : Cond) ∈ zq_W := List.mem_filter.mpr ⟨List.mem_append_right _ (List.mem_append_right _ (List.mem_append_right _ (List.mem_append_right _ (List.mem_append_left _ (List.mem_of_getElem? (i := 19) rfl))))), rfl⟩
theorem zw_318 : (.code zy_Kept_restore zb_Kept_restore 3 none : Cond) ∈ zq_W := List.mem_filter.mpr ⟨List.mem_append_right _ (List.mem_append_right _ (List.mem_append_right _ (List.mem_append_right _ (List.mem_append_left _ (List.mem_of_getElem? (i := 20) rfl))))), rfl⟩
theorem zw_319 : (.methodLink "PlainSteps$Work" 73 zy_Work_writeWhatWaits : Cond) ∈ zq_W := List.mem_filter.mpr ⟨List.mem_append_right _ (List.mem_append_right _ (List.mem_append_right _ (List.mem_append_left _ (List.mem_of_getElem? (i := 239) rfl)))), rfl⟩
theorem zw_320 : (.instanceMethod zy_Work_writeWhatWaits : Cond) ∈ zq_W := List.mem_filter.mpr ⟨List.mem_append_right _ (List.mem_append_right _ (List.mem_append_right _ (List.mem_append_right _ (List.mem_append_left _ (List.mem_of_getElem? (i := 1) rfl))))), rfl⟩
theorem zw_321 : (.selects "PlainSteps$Work" zy_Work_writeWhatWaits zy_Work_writeWhatWaits : Cond) ∈ zq_W := List.mem_filter.mpr ⟨List.mem_append_left _ (List.mem_of_getElem? (i := 11) rfl), rfl⟩
theorem zw_322 : (.code zy_Work_writeWhatWaits zb_Work_writeWhatWaits 1 none : Cond) ∈ zq_W := List.mem_filter.mpr ⟨List.mem_append_right _ (List.mem_append_right _ (List.mem_append_right _ (List.mem_append_right _ (List.mem_append_left _ (List.mem_of_getElem? (i := 2) rfl))))), rfl⟩
theorem zw_323 : (.fieldLink "PlainSteps$Machine" 9 "PlainSteps$Machine" "waitingPlace" "I" : Cond) ∈ zq_W := List.mem_filter.mpr ⟨List.mem_append_right _ (List.mem_append_right _ (List.mem_append_left _ (List.mem_of_getElem? (i := 26) rfl))), rfl⟩
theorem zw_324 : (.methodLink "PlainSteps$Machine" 106 zy_Machine_loseWaiting : Cond) ∈ zq_W := List.mem_filter.mpr ⟨List.mem_append_right _ (List.mem_append_right _ (List.mem_append_right _ (List.mem_append_left _ (List.mem_of_getElem? (i := 90) rfl)))), rfl⟩
theorem zw_325 : (.instanceMethod zy_Machine_loseWaiting : Cond) ∈ zq_W := List.mem_filter.mpr ⟨List.mem_append_right _ (List.mem_append_right _ (List.mem_append_right _ (List.mem_append_left _ (List.mem_of_getElem? (i := 91) rfl)))), rfl⟩
theorem zw_326 : (.selects "PlainSteps$Machine" zy_Machine_loseWaiting zy_Machine_loseWaiting : Cond) ∈ zq_W := List.mem_filter.mpr ⟨List.mem_append_right _ (List.mem_append_right _ (List.mem_append_right _ (List.mem_append_left _ (List.mem_of_getElem? (i := 92) rfl)))), rfl⟩
theorem zw_327 : (.initialized "PlainSteps$Machine" : Cond) ∈ zq_W := List.mem_filter.mpr ⟨List.mem_append_right _ (List.mem_append_left _ (List.mem_of_getElem? (i := 10) rfl)), rfl⟩
theorem zw_328 : (.code zy_Machine_loseWaiting zb_Machine_loseWaiting 1 none : Cond) ∈ zq_W := List.mem_filter.mpr ⟨List.mem_append_right _ (List.mem_append_right _ (List.mem_append_right _ (List.mem_append_left _ (List.mem_of_getElem? (i := 93) rfl)))), rfl⟩
theorem zw_329 : (.fieldLink "PlainSteps$Machine" 30 "PlainSteps$Machine" "kept" "LPlainSteps$Kept;" : Cond) ∈ zq_W := List.mem_filter.mpr ⟨List.mem_append_right _ (List.mem_append_right _ (List.mem_append_left _ (List.mem_of_getElem? (i := 22) rfl))), rfl⟩
theorem zw_330 : (.methodLink "PlainSteps$Machine" 109 zy_Kept_isFull : Cond) ∈ zq_W := List.mem_filter.mpr ⟨List.mem_append_right _ (List.mem_append_right _ (List.mem_append_right _ (List.mem_append_left _ (List.mem_of_getElem? (i := 94) rfl)))), rfl⟩
theorem zw_331 : (.instanceMethod zy_Kept_isFull : Cond) ∈ zq_W := List.mem_filter.mpr ⟨List.mem_append_right _ (List.mem_append_right _ (List.mem_append_right _ (List.mem_append_left _ (List.mem_of_getElem? (i := 95) rfl)))), rfl⟩
theorem zw_332 : (.selects "PlainSteps$Kept" zy_Kept_isFull zy_Kept_isFull : Cond) ∈ zq_W := List.mem_filter.mpr ⟨List.mem_append_right _ (List.mem_append_right _ (List.mem_append_right _ (List.mem_append_left _ (List.mem_of_getElem? (i := 96) rfl)))), rfl⟩
theorem zw_333 : (.code zy_Kept_isFull zb_Kept_isFull 1 (some .boolean) : Cond) ∈ zq_W := List.mem_filter.mpr ⟨List.mem_append_right _ (List.mem_append_right _ (List.mem_append_right _ (List.mem_append_left _ (List.mem_of_getElem? (i := 97) rfl)))), rfl⟩
theorem zw_334 : (.fieldLink "PlainSteps$Machine" 42 "PlainSteps$Machine" "counts" "[I" : Cond) ∈ zq_W := List.mem_filter.mpr ⟨List.mem_append_right _ (List.mem_append_right _ (List.mem_append_left _ (List.mem_of_getElem? (i := 25) rfl))), rfl⟩
theorem zw_335 : (.fieldLink "PlainSteps$Machine" 18 "PlainSteps$Machine" "registers" "LPlainSteps$Registers;" : Cond) ∈ zq_W := List.mem_filter.mpr ⟨List.mem_append_right _ (List.mem_append_right _ (List.mem_append_left _ (List.mem_of_getElem? (i := 19) rfl))), rfl⟩
theorem zw_336 : (.methodLink "PlainSteps$Machine" 61 zy_Registers_placeNow : Cond) ∈ zq_W := List.mem_filter.mpr ⟨List.mem_append_right _ (List.mem_append_right _ (List.mem_append_right _ (List.mem_append_left _ (List.mem_of_getElem? (i := 98) rfl)))), rfl⟩
theorem zw_337 : (.instanceMethod zy_Registers_placeNow : Cond) ∈ zq_W := List.mem_filter.mpr ⟨List.mem_append_right _ (List.mem_append_right _ (List.mem_append_right _ (List.mem_append_left _ (List.mem_of_getElem? (i := 99) rfl)))), rfl⟩
theorem zw_338 : (.selects "PlainSteps$Registers" zy_Registers_placeNow zy_Registers_placeNow : Cond) ∈ zq_W := List.mem_filter.mpr ⟨List.mem_append_right _ (List.mem_append_right _ (List.mem_append_right _ (List.mem_append_left _ (List.mem_of_getElem? (i := 100) rfl)))), rfl⟩
theorem zw_339 : (.code zy_Registers_placeNow zb_Registers_placeNow 1 (some .int) : Cond) ∈ zq_W := List.mem_filter.mpr ⟨List.mem_append_right _ (List.mem_append_right _ (List.mem_append_right _ (List.mem_append_left _ (List.mem_of_getElem? (i := 101) rfl)))), rfl⟩
theorem zw_340 : (.fieldLink "PlainSteps$Machine" 34 "PlainSteps$Machine" "lines" "LPlainSteps$Lines;" : Cond) ∈ zq_W := List.mem_filter.mpr ⟨List.mem_append_right _ (List.mem_append_right _ (List.mem_append_left _ (List.mem_of_getElem? (i := 23) rfl))), rfl⟩
theorem zw_341 : (.methodLink "PlainSteps$Machine" 113 zy_Lines_rankOf : Cond) ∈ zq_W := List.mem_filter.mpr ⟨List.mem_append_right _ (List.mem_append_right _ (List.mem_append_right _ (List.mem_append_left _ (List.mem_of_getElem? (i := 102) rfl)))), rfl⟩
theorem zw_342 : (.instanceMethod zy_Lines_rankOf : Cond) ∈ zq_W := List.mem_filter.mpr ⟨List.mem_append_right _ (List.mem_append_right _ (List.mem_append_right _ (List.mem_append_left _ (List.mem_of_getElem? (i := 103) rfl)))), rfl⟩
theorem zw_343 : (.selects "PlainSteps$Lines" zy_Lines_rankOf zy_Lines_rankOf : Cond) ∈ zq_W := List.mem_filter.mpr ⟨List.mem_append_right _ (List.mem_append_right _ (List.mem_append_right _ (List.mem_append_left _ (List.mem_of_getElem? (i := 104) rfl)))), rfl⟩
theorem zw_344 : (.initialized "PlainSteps$Lines" : Cond) ∈ zq_W := List.mem_filter.mpr ⟨List.mem_append_right _ (List.mem_append_left _ (List.mem_of_getElem? (i := 7) rfl)), rfl⟩
theorem zw_345 : (.code zy_Lines_rankOf zb_Lines_rankOf 2 (some .int) : Cond) ∈ zq_W := List.mem_filter.mpr ⟨List.mem_append_right _ (List.mem_append_right _ (List.mem_append_right _ (List.mem_append_left _ (List.mem_of_getElem? (i := 105) rfl)))), rfl⟩
theorem zw_346 : (.methodLink "PlainSteps$Machine" 116 zy_Kept_keep : Cond) ∈ zq_W := List.mem_filter.mpr ⟨List.mem_append_right _ (List.mem_append_right _ (List.mem_append_right _ (List.mem_append_left _ (List.mem_of_getElem? (i := 106) rfl)))), rfl⟩
theorem zw_347 : (.instanceMethod zy_Kept_keep : Cond) ∈ zq_W := List.mem_filter.mpr ⟨List.mem_append_right _ (List.mem_append_right _ (List.mem_append_right _ (List.mem_append_left _ (List.mem_of_getElem? (i := 107) rfl)))), rfl⟩
theorem zw_348 : (.selects "PlainSteps$Kept" zy_Kept_keep zy_Kept_keep : Cond) ∈ zq_W := List.mem_filter.mpr ⟨List.mem_append_right _ (List.mem_append_right _ (List.mem_append_right _ (List.mem_append_left _ (List.mem_of_getElem? (i := 108) rfl)))), rfl⟩
theorem zw_349 : (.code zy_Kept_keep zb_Kept_keep 3 none : Cond) ∈ zq_W := List.mem_filter.mpr ⟨List.mem_append_right _ (List.mem_append_right _ (List.mem_append_right _ (List.mem_append_left _ (List.mem_of_getElem? (i := 109) rfl)))), rfl⟩
theorem zw_350 : (.methodLink "PlainSteps$Machine" 119 zy_Registers_put : Cond) ∈ zq_W := List.mem_filter.mpr ⟨List.mem_append_right _ (List.mem_append_right _ (List.mem_append_right _ (List.mem_append_left _ (List.mem_of_getElem? (i := 110) rfl)))), rfl⟩
theorem zw_351 : (.fieldLink "PlainSteps$Machine" 15 "PlainSteps$Machine" "halt" "I" : Cond) ∈ zq_W := List.mem_filter.mpr ⟨List.mem_append_right _ (List.mem_append_right _ (List.mem_append_left _ (List.mem_of_getElem? (i := 27) rfl))), rfl⟩
theorem zw_352 : (.fieldLink "PlainSteps$Machine" 126 "PlainSteps$Machine" "faultKind" "I" : Cond) ∈ zq_W := List.mem_filter.mpr ⟨List.mem_append_right _ (List.mem_append_right _ (List.mem_append_left _ (List.mem_of_getElem? (i := 29) rfl))), rfl⟩
theorem zw_353 : (.fieldLink "PlainSteps$Machine" 129 "PlainSteps$Machine" "faultPlace" "I" : Cond) ∈ zq_W := List.mem_filter.mpr ⟨List.mem_append_right _ (List.mem_append_right _ (List.mem_append_left _ (List.mem_of_getElem? (i := 31) rfl))), rfl⟩
theorem zw_354 : (.methodLink "PlainSteps$Machine" 85 zy_Registers_movePlace : Cond) ∈ zq_W := List.mem_filter.mpr ⟨List.mem_append_right _ (List.mem_append_right _ (List.mem_append_right _ (List.mem_append_left _ (List.mem_of_getElem? (i := 123) rfl)))), rfl⟩
theorem zw_355 : (.instanceMethod zy_Registers_movePlace : Cond) ∈ zq_W := List.mem_filter.mpr ⟨List.mem_append_right _ (List.mem_append_right _ (List.mem_append_right _ (List.mem_append_left _ (List.mem_of_getElem? (i := 124) rfl)))), rfl⟩
theorem zw_356 : (.selects "PlainSteps$Registers" zy_Registers_movePlace zy_Registers_movePlace : Cond) ∈ zq_W := List.mem_filter.mpr ⟨List.mem_append_right _ (List.mem_append_right _ (List.mem_append_right _ (List.mem_append_left _ (List.mem_of_getElem? (i := 125) rfl)))), rfl⟩
theorem zw_357 : (.code zy_Registers_movePlace zb_Registers_movePlace 2 none : Cond) ∈ zq_W := List.mem_filter.mpr ⟨List.mem_append_right _ (List.mem_append_right _ (List.mem_append_right _ (List.mem_append_left _ (List.mem_of_getElem? (i := 126) rfl)))), rfl⟩
theorem zw_358 : (.fieldLink "PlainSteps$Machine" 38 "PlainSteps$Machine" "work" "LPlainSteps$Work;" : Cond) ∈ zq_W := List.mem_filter.mpr ⟨List.mem_append_right _ (List.mem_append_right _ (List.mem_append_left _ (List.mem_of_getElem? (i := 24) rfl))), rfl⟩
theorem zw_359 : (.methodLink "PlainSteps$Machine" 51 zy_Lines_mostUrgent : Cond) ∈ zq_W := List.mem_filter.mpr ⟨List.mem_append_right _ (List.mem_append_right _ (List.mem_append_right _ (List.mem_append_left _ (List.mem_of_getElem? (i := 82) rfl)))), rfl⟩
theorem zw_360 : (.instanceMethod zy_Lines_mostUrgent : Cond) ∈ zq_W := List.mem_filter.mpr ⟨List.mem_append_right _ (List.mem_append_right _ (List.mem_append_right _ (List.mem_append_left _ (List.mem_of_getElem? (i := 83) rfl)))), rfl⟩
theorem zw_361 : (.selects "PlainSteps$Lines" zy_Lines_mostUrgent zy_Lines_mostUrgent : Cond) ∈ zq_W := List.mem_filter.mpr ⟨List.mem_append_right _ (List.mem_append_right _ (List.mem_append_right _ (List.mem_append_left _ (List.mem_of_getElem? (i := 84) rfl)))), rfl⟩
theorem zw_362 : (.code zy_Lines_mostUrgent zb_Lines_mostUrgent 5 (some .int) : Cond) ∈ zq_W := List.mem_filter.mpr ⟨List.mem_append_right _ (List.mem_append_right _ (List.mem_append_right _ (List.mem_append_left _ (List.mem_of_getElem? (i := 85) rfl)))), rfl⟩
theorem zw_363 : (.fieldLink "PlainSteps$Machine" 22 "PlainSteps$Machine" "bytes" "LPlainSteps$Bytes;" : Cond) ∈ zq_W := List.mem_filter.mpr ⟨List.mem_append_right _ (List.mem_append_right _ (List.mem_append_left _ (List.mem_of_getElem? (i := 20) rfl))), rfl⟩
theorem zw_364 : (.methodLink "PlainSteps$Machine" 67 zy_Bytes_hasWord : Cond) ∈ zq_W := List.mem_filter.mpr ⟨List.mem_append_right _ (List.mem_append_right _ (List.mem_append_right _ (List.mem_append_left _ (List.mem_of_getElem? (i := 114) rfl)))), rfl⟩
theorem zw_365 : (.methodLink "PlainSteps$Machine" 77 zy_Bytes_wordOf : Cond) ∈ zq_W := List.mem_filter.mpr ⟨List.mem_append_right _ (List.mem_append_right _ (List.mem_append_right _ (List.mem_append_left _ (List.mem_of_getElem? (i := 128) rfl)))), rfl⟩
theorem zw_366 : (.fieldLink "PlainSteps$Machine" 26 "PlainSteps$Machine" "program" "LPlainSteps$Program;" : Cond) ∈ zq_W := List.mem_filter.mpr ⟨List.mem_append_right _ (List.mem_append_right _ (List.mem_append_left _ (List.mem_of_getElem? (i := 21) rfl))), rfl⟩
theorem zw_367 : (.methodLink "PlainSteps$Machine" 80 zy_Program_find : Cond) ∈ zq_W := List.mem_filter.mpr ⟨List.mem_append_right _ (List.mem_append_right _ (List.mem_append_right _ (List.mem_append_left _ (List.mem_of_getElem? (i := 132) rfl)))), rfl⟩
theorem zw_368 : (.instanceMethod zy_Program_find : Cond) ∈ zq_W := List.mem_filter.mpr ⟨List.mem_append_right _ (List.mem_append_right _ (List.mem_append_right _ (List.mem_append_left _ (List.mem_of_getElem? (i := 133) rfl)))), rfl⟩
theorem zw_369 : (.selects "PlainSteps$Program" zy_Program_find zy_Program_find : Cond) ∈ zq_W := List.mem_filter.mpr ⟨List.mem_append_right _ (List.mem_append_right _ (List.mem_append_right _ (List.mem_append_left _ (List.mem_of_getElem? (i := 134) rfl)))), rfl⟩
theorem zw_370 : (.code zy_Program_find zb_Program_find 3 (some .int) : Cond) ∈ zq_W := List.mem_filter.mpr ⟨List.mem_append_right _ (List.mem_append_right _ (List.mem_append_right _ (List.mem_append_left _ (List.mem_of_getElem? (i := 135) rfl)))), rfl⟩
theorem zw_371 : (.methodLink "PlainSteps$Machine" 88 zy_Work_carryOut : Cond) ∈ zq_W := List.mem_filter.mpr ⟨List.mem_append_right _ (List.mem_append_right _ (List.mem_append_right _ (List.mem_append_left _ (List.mem_of_getElem? (i := 136) rfl)))), rfl⟩
theorem zw_372 : (.instanceMethod zy_Work_carryOut : Cond) ∈ zq_W := List.mem_filter.mpr ⟨List.mem_append_right _ (List.mem_append_right _ (List.mem_append_right _ (List.mem_append_left _ (List.mem_of_getElem? (i := 137) rfl)))), rfl⟩
theorem zw_373 : (.selects "PlainSteps$Work" zy_Work_carryOut zy_Work_carryOut : Cond) ∈ zq_W := List.mem_filter.mpr ⟨List.mem_append_right _ (List.mem_append_right _ (List.mem_append_right _ (List.mem_append_left _ (List.mem_of_getElem? (i := 138) rfl)))), rfl⟩
theorem zw_374 : (.code zy_Work_carryOut zb_Work_carryOut 7 (some .int) : Cond) ∈ zq_W := List.mem_filter.mpr ⟨List.mem_append_right _ (List.mem_append_right _ (List.mem_append_right _ (List.mem_append_left _ (List.mem_of_getElem? (i := 139) rfl)))), rfl⟩
theorem zw_375 : (.methodLink "PlainSteps$Machine" 73 zy_Machine_failWith : Cond) ∈ zq_W := List.mem_filter.mpr ⟨List.mem_append_right _ (List.mem_append_right _ (List.mem_append_right _ (List.mem_append_left _ (List.mem_of_getElem? (i := 119) rfl)))), rfl⟩
theorem zw_376 : (.instanceMethod zy_Machine_failWith : Cond) ∈ zq_W := List.mem_filter.mpr ⟨List.mem_append_right _ (List.mem_append_right _ (List.mem_append_right _ (List.mem_append_left _ (List.mem_of_getElem? (i := 121) rfl)))), rfl⟩
theorem zw_377 : (.selects "PlainSteps$Machine" zy_Machine_failWith zy_Machine_failWith : Cond) ∈ zq_W := List.mem_filter.mpr ⟨List.mem_append_left _ (List.mem_of_getElem? (i := 2) rfl), rfl⟩
theorem zw_378 : (.code zy_Machine_failWith zb_Machine_failWith 3 none : Cond) ∈ zq_W := List.mem_filter.mpr ⟨List.mem_append_right _ (List.mem_append_right _ (List.mem_append_right _ (List.mem_append_left _ (List.mem_of_getElem? (i := 122) rfl)))), rfl⟩
theorem zw_379 : (.methodLink "PlainSteps$Machine" 57 zy_Machine_interruptBy : Cond) ∈ zq_W := List.mem_filter.mpr ⟨List.mem_append_right _ (List.mem_append_right _ (List.mem_append_right _ (List.mem_append_left _ (List.mem_of_getElem? (i := 86) rfl)))), rfl⟩
theorem zw_380 : (.instanceMethod zy_Machine_interruptBy : Cond) ∈ zq_W := List.mem_filter.mpr ⟨List.mem_append_right _ (List.mem_append_right _ (List.mem_append_right _ (List.mem_append_left _ (List.mem_of_getElem? (i := 88) rfl)))), rfl⟩
theorem zw_381 : (.selects "PlainSteps$Machine" zy_Machine_interruptBy zy_Machine_interruptBy : Cond) ∈ zq_W := List.mem_filter.mpr ⟨List.mem_append_left _ (List.mem_of_getElem? (i := 1) rfl), rfl⟩
theorem zw_382 : (.code zy_Machine_interruptBy zb_Machine_interruptBy 2 none : Cond) ∈ zq_W := List.mem_filter.mpr ⟨List.mem_append_right _ (List.mem_append_right _ (List.mem_append_right _ (List.mem_append_left _ (List.mem_of_getElem? (i := 89) rfl)))), rfl⟩
theorem zw_383 : (.methodLink "PlainSteps$Machine" 98 zy_Program_is : Cond) ∈ zq_W := List.mem_filter.mpr ⟨List.mem_append_right _ (List.mem_append_right _ (List.mem_append_right _ (List.mem_append_right _ (List.mem_append_left _ (List.mem_of_getElem? (i := 21) rfl))))), rfl⟩
theorem zw_384 : (.methodLink "PlainSteps$Machine" 102 zy_Machine_settlePlace : Cond) ∈ zq_W := List.mem_filter.mpr ⟨List.mem_append_right _ (List.mem_append_right _ (List.mem_append_right _ (List.mem_append_right _ (List.mem_append_left _ (List.mem_of_getElem? (i := 22) rfl))))), rfl⟩
theorem zw_385 : (.instanceMethod zy_Machine_settlePlace : Cond) ∈ zq_W := List.mem_filter.mpr ⟨List.mem_append_right _ (List.mem_append_right _ (List.mem_append_right _ (List.mem_append_right _ (List.mem_append_left _ (List.mem_of_getElem? (i := 24) rfl))))), rfl⟩
theorem zw_386 : (.selects "PlainSteps$Machine" zy_Machine_settlePlace zy_Machine_settlePlace : Cond) ∈ zq_W := List.mem_filter.mpr ⟨List.mem_append_left _ (List.mem_of_getElem? (i := 13) rfl), rfl⟩
theorem zw_387 : (.code zy_Machine_settlePlace zb_Machine_settlePlace 4 none : Cond) ∈ zq_W := List.mem_filter.mpr ⟨List.mem_append_right _ (List.mem_append_right _ (List.mem_append_right _ (List.mem_append_right _ (List.mem_append_left _ (List.mem_of_getElem? (i := 25) rfl))))), rfl⟩
theorem zw_388 : (.fieldLink "PlainStepsModel" 107 "PlainStepsModel" "thrown" "I" : Cond) ∈ zq_W := List.mem_filter.mpr ⟨List.mem_append_right _ (List.mem_append_right _ (List.mem_append_right _ (List.mem_append_right _ (List.mem_append_left _ (List.mem_of_getElem? (i := 101) rfl))))), rfl⟩
theorem zw_389 : (.fieldLink "PlainStepsModel" 13 "PlainStepsModel" "width" "[I" : Cond) ∈ zq_W := List.mem_filter.mpr ⟨List.mem_append_right _ (List.mem_append_right _ (List.mem_append_right _ (List.mem_append_right _ (List.mem_append_left _ (List.mem_of_getElem? (i := 103) rfl))))), rfl⟩
theorem zw_390 : (.constantLong "PlainStepsModel" 110 (64) : Cond) ∈ zq_W := List.mem_filter.mpr ⟨List.mem_append_right _ (List.mem_append_right _ (List.mem_append_right _ (List.mem_append_right _ (List.mem_append_right _ (List.mem_of_getElem? (i := 26) rfl))))), rfl⟩
theorem zw_391 : (.methodLink "PlainStepsModel" 112 zy_M_in : Cond) ∈ zq_W := List.mem_filter.mpr ⟨List.mem_append_right _ (List.mem_append_right _ (List.mem_append_right _ (List.mem_append_right _ (List.mem_append_right _ (List.mem_of_getElem? (i := 27) rfl))))), rfl⟩
theorem zw_392 : (.static zy_M_in : Cond) ∈ zq_W := List.mem_filter.mpr ⟨List.mem_append_right _ (List.mem_append_right _ (List.mem_append_right _ (List.mem_append_right _ (List.mem_append_right _ (List.mem_of_getElem? (i := 28) rfl))))), rfl⟩
theorem zw_393 : (.initialized "PlainStepsModel" : Cond) ∈ zq_W := List.mem_filter.mpr ⟨List.mem_append_right _ (List.mem_append_left _ (List.mem_of_getElem? (i := 11) rfl)), rfl⟩
theorem zw_394 : (.code zy_M_in zb_M_in 6 (some .boolean) : Cond) ∈ zq_W := List.mem_filter.mpr ⟨List.mem_append_right _ (List.mem_append_right _ (List.mem_append_right _ (List.mem_append_right _ (List.mem_append_right _ (List.mem_of_getElem? (i := 29) rfl))))), rfl⟩
theorem zw_395 : (.fieldLink "PlainStepsModel" 7 "PlainStepsModel" "registers" "I" : Cond) ∈ zq_W := List.mem_filter.mpr ⟨List.mem_append_right _ (List.mem_append_right _ (List.mem_append_right _ (List.mem_append_right _ (List.mem_append_left _ (List.mem_of_getElem? (i := 102) rfl))))), rfl⟩
theorem zw_396 : (.methodLink "PlainStepsModel" 116 zy_M_goes : Cond) ∈ zq_W := List.mem_filter.mpr ⟨List.mem_append_right _ (List.mem_append_right _ (List.mem_append_right _ (List.mem_append_right _ (List.mem_append_right _ (List.mem_of_getElem? (i := 30) rfl))))), rfl⟩
theorem zw_397 : (.instanceMethod zy_M_goes : Cond) ∈ zq_W := List.mem_filter.mpr ⟨List.mem_append_right _ (List.mem_append_right _ (List.mem_append_right _ (List.mem_append_right _ (List.mem_append_right _ (List.mem_of_getElem? (i := 32) rfl))))), rfl⟩
theorem zw_398 : (.selects "PlainStepsModel" zy_M_goes zy_M_goes : Cond) ∈ zq_W := List.mem_filter.mpr ⟨List.mem_append_left _ (List.mem_of_getElem? (i := 14) rfl), rfl⟩
theorem zw_399 : (.code zy_M_goes zb_M_goes 3 (some .boolean) : Cond) ∈ zq_W := List.mem_filter.mpr ⟨List.mem_append_right _ (List.mem_append_right _ (List.mem_append_right _ (List.mem_append_right _ (List.mem_append_right _ (List.mem_of_getElem? (i := 33) rfl))))), rfl⟩
theorem zw_400 : (.fieldLink "PlainStepsModel" 17 "PlainStepsModel" "value" "[J" : Cond) ∈ zq_W := List.mem_filter.mpr ⟨List.mem_append_right _ (List.mem_append_right _ (List.mem_append_right _ (List.mem_append_right _ (List.mem_append_left _ (List.mem_of_getElem? (i := 104) rfl))))), rfl⟩
theorem zw_401 : (.fieldLink "PlainStepsModel" 27 "PlainStepsModel" "marked" "[Z" : Cond) ∈ zq_W := List.mem_filter.mpr ⟨List.mem_append_right _ (List.mem_append_right _ (List.mem_append_right _ (List.mem_append_right _ (List.mem_append_left _ (List.mem_of_getElem? (i := 107) rfl))))), rfl⟩
theorem zw_402 : (.fieldLink "PlainStepsModel" 120 "PlainStepsModel" "constants" "I" : Cond) ∈ zq_W := List.mem_filter.mpr ⟨List.mem_append_right _ (List.mem_append_right _ (List.mem_append_right _ (List.mem_append_right _ (List.mem_append_left _ (List.mem_of_getElem? (i := 112) rfl))))), rfl⟩
theorem zw_403 : (.fieldLink "PlainStepsModel" 44 "PlainStepsModel" "constant" "[J" : Cond) ∈ zq_W := List.mem_filter.mpr ⟨List.mem_append_right _ (List.mem_append_right _ (List.mem_append_right _ (List.mem_append_right _ (List.mem_append_left _ (List.mem_of_getElem? (i := 116) rfl))))), rfl⟩
theorem zw_404 : (.constantLong "PlainStepsModel" 123 (15) : Cond) ∈ zq_W := List.mem_filter.mpr ⟨List.mem_append_right _ (List.mem_append_right _ (List.mem_append_right _ (List.mem_append_right _ (List.mem_append_right _ (List.mem_of_getElem? (i := 42) rfl))))), rfl⟩
theorem zw_405 : (.fieldLink "PlainStepsModel" 125 "PlainStepsModel" "fields" "I" : Cond) ∈ zq_W := List.mem_filter.mpr ⟨List.mem_append_right _ (List.mem_append_right _ (List.mem_append_right _ (List.mem_append_right _ (List.mem_append_left _ (List.mem_of_getElem? (i := 113) rfl))))), rfl⟩
theorem zw_406 : (.fieldLink "PlainStepsModel" 47 "PlainStepsModel" "from" "[I" : Cond) ∈ zq_W := List.mem_filter.mpr ⟨List.mem_append_right _ (List.mem_append_right _ (List.mem_append_right _ (List.mem_append_right _ (List.mem_append_left _ (List.mem_of_getElem? (i := 117) rfl))))), rfl⟩
theorem zw_407 : (.fieldLink "PlainStepsModel" 50 "PlainStepsModel" "to" "[I" : Cond) ∈ zq_W := List.mem_filter.mpr ⟨List.mem_append_right _ (List.mem_append_right _ (List.mem_append_right _ (List.mem_append_right _ (List.mem_append_left _ (List.mem_of_getElem? (i := 118) rfl))))), rfl⟩
theorem zw_408 : (.fieldLink "PlainStepsModel" 53 "PlainStepsModel" "signed" "[Z" : Cond) ∈ zq_W := List.mem_filter.mpr ⟨List.mem_append_right _ (List.mem_append_right _ (List.mem_append_right _ (List.mem_append_right _ (List.mem_append_left _ (List.mem_of_getElem? (i := 119) rfl))))), rfl⟩
theorem zw_409 : (.constantLong "PlainStepsModel" 128 (32) : Cond) ∈ zq_W := List.mem_filter.mpr ⟨List.mem_append_right _ (List.mem_append_right _ (List.mem_append_right _ (List.mem_append_right _ (List.mem_append_right _ (List.mem_of_getElem? (i := 52) rfl))))), rfl⟩
theorem zw_410 : (.constantLong "PlainStepsModel" 130 (22) : Cond) ∈ zq_W := List.mem_filter.mpr ⟨List.mem_append_right _ (List.mem_append_right _ (List.mem_append_right _ (List.mem_append_right _ (List.mem_append_right _ (List.mem_of_getElem? (i := 47) rfl))))), rfl⟩
theorem zw_411 : (.methodLink "PlainStepsModel" 132 zy_M_isOperand : Cond) ∈ zq_W := List.mem_filter.mpr ⟨List.mem_append_right _ (List.mem_append_right _ (List.mem_append_right _ (List.mem_append_right _ (List.mem_append_right _ (List.mem_of_getElem? (i := 48) rfl))))), rfl⟩
theorem zw_412 : (.instanceMethod zy_M_isOperand : Cond) ∈ zq_W := List.mem_filter.mpr ⟨List.mem_append_right _ (List.mem_append_right _ (List.mem_append_right _ (List.mem_append_right _ (List.mem_append_right _ (List.mem_of_getElem? (i := 50) rfl))))), rfl⟩
theorem zw_413 : (.selects "PlainStepsModel" zy_M_isOperand zy_M_isOperand : Cond) ∈ zq_W := List.mem_filter.mpr ⟨List.mem_append_left _ (List.mem_of_getElem? (i := 15) rfl), rfl⟩
theorem zw_414 : (.code zy_M_isOperand zb_M_isOperand 2 (some .boolean) : Cond) ∈ zq_W := List.mem_filter.mpr ⟨List.mem_append_right _ (List.mem_append_right _ (List.mem_append_right _ (List.mem_append_right _ (List.mem_append_right _ (List.mem_of_getElem? (i := 51) rfl))))), rfl⟩
theorem zw_415 : (.fieldLink "PlainStepsModel" 136 "PlainStepsModel" "transfers" "I" : Cond) ∈ zq_W := List.mem_filter.mpr ⟨List.mem_append_right _ (List.mem_append_right _ (List.mem_append_right _ (List.mem_append_right _ (List.mem_append_left _ (List.mem_of_getElem? (i := 114) rfl))))), rfl⟩
theorem zw_416 : (.fieldLink "PlainStepsModel" 56 "PlainStepsModel" "op" "[I" : Cond) ∈ zq_W := List.mem_filter.mpr ⟨List.mem_append_right _ (List.mem_append_right _ (List.mem_append_right _ (List.mem_append_right _ (List.mem_append_left _ (List.mem_of_getElem? (i := 120) rfl))))), rfl⟩
theorem zw_417 : (.fieldLink "PlainStepsModel" 59 "PlainStepsModel" "first" "[I" : Cond) ∈ zq_W := List.mem_filter.mpr ⟨List.mem_append_right _ (List.mem_append_right _ (List.mem_append_right _ (List.mem_append_right _ (List.mem_append_left _ (List.mem_of_getElem? (i := 121) rfl))))), rfl⟩
theorem zw_418 : (.fieldLink "PlainStepsModel" 62 "PlainStepsModel" "second" "[I" : Cond) ∈ zq_W := List.mem_filter.mpr ⟨List.mem_append_right _ (List.mem_append_right _ (List.mem_append_right _ (List.mem_append_right _ (List.mem_append_left _ (List.mem_of_getElem? (i := 122) rfl))))), rfl⟩
theorem zw_419 : (.fieldLink "PlainStepsModel" 65 "PlainStepsModel" "target" "[I" : Cond) ∈ zq_W := List.mem_filter.mpr ⟨List.mem_append_right _ (List.mem_append_right _ (List.mem_append_right _ (List.mem_append_right _ (List.mem_append_left _ (List.mem_of_getElem? (i := 123) rfl))))), rfl⟩
theorem zw_420 : (.constantLong "PlainStepsModel" 139 (65535) : Cond) ∈ zq_W := List.mem_filter.mpr ⟨List.mem_append_right _ (List.mem_append_right _ (List.mem_append_right _ (List.mem_append_right _ (List.mem_append_right _ (List.mem_of_getElem? (i := 57) rfl))))), rfl⟩
theorem zw_421 : (.constantLong "PlainStepsModel" 141 (7) : Cond) ∈ zq_W := List.mem_filter.mpr ⟨List.mem_append_right _ (List.mem_append_right _ (List.mem_append_right _ (List.mem_append_right _ (List.mem_append_right _ (List.mem_of_getElem? (i := 58) rfl))))), rfl⟩
theorem zw_422 : (.fieldLink "PlainStepsModel" 143 "PlainStepsModel" "instructions" "I" : Cond) ∈ zq_W := List.mem_filter.mpr ⟨List.mem_append_right _ (List.mem_append_right _ (List.mem_append_right _ (List.mem_append_right _ (List.mem_append_left _ (List.mem_of_getElem? (i := 115) rfl))))), rfl⟩
theorem zw_423 : (.fieldLink "PlainStepsModel" 68 "PlainStepsModel" "mask" "[I" : Cond) ∈ zq_W := List.mem_filter.mpr ⟨List.mem_append_right _ (List.mem_append_right _ (List.mem_append_right _ (List.mem_append_right _ (List.mem_append_left _ (List.mem_of_getElem? (i := 124) rfl))))), rfl⟩
theorem zw_424 : (.fieldLink "PlainStepsModel" 71 "PlainStepsModel" "pattern" "[I" : Cond) ∈ zq_W := List.mem_filter.mpr ⟨List.mem_append_right _ (List.mem_append_right _ (List.mem_append_right _ (List.mem_append_right _ (List.mem_append_left _ (List.mem_of_getElem? (i := 125) rfl))))), rfl⟩
theorem zw_425 : (.fieldLink "PlainStepsModel" 74 "PlainStepsModel" "how" "[I" : Cond) ∈ zq_W := List.mem_filter.mpr ⟨List.mem_append_right _ (List.mem_append_right _ (List.mem_append_right _ (List.mem_append_right _ (List.mem_append_left _ (List.mem_of_getElem? (i := 126) rfl))))), rfl⟩
theorem zw_426 : (.fieldLink "PlainStepsModel" 77 "PlainStepsModel" "begin" "[I" : Cond) ∈ zq_W := List.mem_filter.mpr ⟨List.mem_append_right _ (List.mem_append_right _ (List.mem_append_right _ (List.mem_append_right _ (List.mem_append_left _ (List.mem_of_getElem? (i := 127) rfl))))), rfl⟩
theorem zw_427 : (.constantLong "PlainStepsModel" 146 (4095) : Cond) ∈ zq_W := List.mem_filter.mpr ⟨List.mem_append_right _ (List.mem_append_right _ (List.mem_append_right _ (List.mem_append_right _ (List.mem_append_right _ (List.mem_of_getElem? (i := 63) rfl))))), rfl⟩
theorem zw_428 : (.constantLong "PlainStepsModel" 148 (255) : Cond) ∈ zq_W := List.mem_filter.mpr ⟨List.mem_append_right _ (List.mem_append_right _ (List.mem_append_right _ (List.mem_append_right _ (List.mem_append_right _ (List.mem_of_getElem? (i := 64) rfl))))), rfl⟩
theorem zw_429 : (.fieldLink "PlainStepsModel" 37 "PlainStepsModel" "memory" "[B" : Cond) ∈ zq_W := List.mem_filter.mpr ⟨List.mem_append_right _ (List.mem_append_right _ (List.mem_append_right _ (List.mem_append_right _ (List.mem_append_left _ (List.mem_of_getElem? (i := 110) rfl))))), rfl⟩
theorem zw_430 : (.fieldLink "PlainStepsModel" 150 "PlainStepsModel" "kept" "I" : Cond) ∈ zq_W := List.mem_filter.mpr ⟨List.mem_append_right _ (List.mem_append_right _ (List.mem_append_right _ (List.mem_append_right _ (List.mem_append_left _ (List.mem_of_getElem? (i := 131) rfl))))), rfl⟩
theorem zw_431 : (.fieldLink "PlainStepsModel" 86 "PlainStepsModel" "keptPlace" "[I" : Cond) ∈ zq_W := List.mem_filter.mpr ⟨List.mem_append_right _ (List.mem_append_right _ (List.mem_append_right _ (List.mem_append_right _ (List.mem_append_left _ (List.mem_of_getElem? (i := 134) rfl))))), rfl⟩
theorem zw_432 : (.fieldLink "PlainStepsModel" 89 "PlainStepsModel" "keptLevel" "[I" : Cond) ∈ zq_W := List.mem_filter.mpr ⟨List.mem_append_right _ (List.mem_append_right _ (List.mem_append_right _ (List.mem_append_right _ (List.mem_append_left _ (List.mem_of_getElem? (i := 135) rfl))))), rfl⟩
theorem zw_433 : (.fieldLink "PlainStepsModel" 156 "PlainStepsModel" "level" "I" : Cond) ∈ zq_W := List.mem_filter.mpr ⟨List.mem_append_right _ (List.mem_append_right _ (List.mem_append_right _ (List.mem_append_right _ (List.mem_append_left _ (List.mem_of_getElem? (i := 130) rfl))))), rfl⟩
theorem zw_434 : (.fieldLink "PlainStepsModel" 153 "PlainStepsModel" "halted" "I" : Cond) ∈ zq_W := List.mem_filter.mpr ⟨List.mem_append_right _ (List.mem_append_right _ (List.mem_append_right _ (List.mem_append_right _ (List.mem_append_left _ (List.mem_of_getElem? (i := 149) rfl))))), rfl⟩
theorem zw_435 : (.fieldLink "PlainStepsModel" 104 "PlainStepsModel" "count" "[I" : Cond) ∈ zq_W := List.mem_filter.mpr ⟨List.mem_append_right _ (List.mem_append_right _ (List.mem_append_right _ (List.mem_append_right _ (List.mem_append_left _ (List.mem_of_getElem? (i := 152) rfl))))), rfl⟩
theorem zw_436 : (.fieldLink "PlainStepsModel" 159 "PlainStepsModel" "latest" "I" : Cond) ∈ zq_W := List.mem_filter.mpr ⟨List.mem_append_right _ (List.mem_append_right _ (List.mem_append_right _ (List.mem_append_right _ (List.mem_append_left _ (List.mem_of_getElem? (i := 150) rfl))))), rfl⟩
theorem zw_437 : (.fieldLink "PlainStepsModel" 162 "PlainStepsModel" "stands" "I" : Cond) ∈ zq_W := List.mem_filter.mpr ⟨List.mem_append_right _ (List.mem_append_right _ (List.mem_append_right _ (List.mem_append_right _ (List.mem_append_left _ (List.mem_of_getElem? (i := 137) rfl))))), rfl⟩
theorem zw_438 : (.fieldLink "PlainStepsModel" 165 "PlainStepsModel" "latestPlace" "I" : Cond) ∈ zq_W := List.mem_filter.mpr ⟨List.mem_append_right _ (List.mem_append_right _ (List.mem_append_right _ (List.mem_append_right _ (List.mem_append_left _ (List.mem_of_getElem? (i := 151) rfl))))), rfl⟩
theorem zw_439 : (.fieldLink "PlainStepsModel" 168 "PlainStepsModel" "waits" "Z" : Cond) ∈ zq_W := List.mem_filter.mpr ⟨List.mem_append_right _ (List.mem_append_right _ (List.mem_append_right _ (List.mem_append_right _ (List.mem_append_left _ (List.mem_of_getElem? (i := 142) rfl))))), rfl⟩
theorem zw_440 : (.methodLink "PlainStepsModel" 172 zy_M_keep : Cond) ∈ zq_W := List.mem_filter.mpr ⟨List.mem_append_right _ (List.mem_append_right _ (List.mem_append_right _ (List.mem_append_right _ (List.mem_append_right _ (List.mem_of_getElem? (i := 90) rfl))))), rfl⟩
theorem zw_441 : (.instanceMethod zy_M_keep : Cond) ∈ zq_W := List.mem_filter.mpr ⟨List.mem_append_right _ (List.mem_append_right _ (List.mem_append_right _ (List.mem_append_right _ (List.mem_append_right _ (List.mem_of_getElem? (i := 92) rfl))))), rfl⟩
theorem zw_442 : (.selects "PlainStepsModel" zy_M_keep zy_M_keep : Cond) ∈ zq_W := List.mem_filter.mpr ⟨List.mem_append_left _ (List.mem_of_getElem? (i := 20) rfl), rfl⟩
theorem zw_443 : (.code zy_M_keep zb_M_keep 4 (some .boolean) : Cond) ∈ zq_W := List.mem_filter.mpr ⟨List.mem_append_right _ (List.mem_append_right _ (List.mem_append_right _ (List.mem_append_right _ (List.mem_append_right _ (List.mem_of_getElem? (i := 93) rfl))))), rfl⟩
theorem zw_444 : (.fieldLink "PlainStepsModel" 80 "PlainStepsModel" "on" "[Z" : Cond) ∈ zq_W := List.mem_filter.mpr ⟨List.mem_append_right _ (List.mem_append_right _ (List.mem_append_right _ (List.mem_append_right _ (List.mem_append_left _ (List.mem_of_getElem? (i := 128) rfl))))), rfl⟩
theorem zw_445 : (.fieldLink "PlainStepsModel" 83 "PlainStepsModel" "rank" "[I" : Cond) ∈ zq_W := List.mem_filter.mpr ⟨List.mem_append_right _ (List.mem_append_right _ (List.mem_append_right _ (List.mem_append_right _ (List.mem_append_left _ (List.mem_of_getElem? (i := 129) rfl))))), rfl⟩
theorem zw_446 : (.fieldLink "PlainStepsModel" 179 "PlainStepsModel" "word" "I" : Cond) ∈ zq_W := List.mem_filter.mpr ⟨List.mem_append_right _ (List.mem_append_right _ (List.mem_append_right _ (List.mem_append_right _ (List.mem_append_left _ (List.mem_of_getElem? (i := 136) rfl))))), rfl⟩
theorem zw_447 : (.methodLink "PlainStepsModel" 176 zy_M_isParallel : Cond) ∈ zq_W := List.mem_filter.mpr ⟨List.mem_append_right _ (List.mem_append_right _ (List.mem_append_right _ (List.mem_append_right _ (List.mem_append_right _ (List.mem_of_getElem? (i := 115) rfl))))), rfl⟩
theorem zw_448 : (.instanceMethod zy_M_isParallel : Cond) ∈ zq_W := List.mem_filter.mpr ⟨List.mem_append_right _ (List.mem_append_right _ (List.mem_append_right _ (List.mem_append_right _ (List.mem_append_right _ (List.mem_of_getElem? (i := 117) rfl))))), rfl⟩
theorem zw_449 : (.selects "PlainStepsModel" zy_M_isParallel zy_M_isParallel : Cond) ∈ zq_W := List.mem_filter.mpr ⟨List.mem_append_left _ (List.mem_of_getElem? (i := 26) rfl), rfl⟩
theorem zw_450 : (.code zy_M_isParallel zb_M_isParallel 2 (some .boolean) : Cond) ∈ zq_W := List.mem_filter.mpr ⟨List.mem_append_right _ (List.mem_append_right _ (List.mem_append_right _ (List.mem_append_right _ (List.mem_append_right _ (List.mem_of_getElem? (i := 118) rfl))))), rfl⟩
theorem zw_451 : (.fieldLink "PlainStepsModel" 21 "PlainStepsModel" "before" "[J" : Cond) ∈ zq_W := List.mem_filter.mpr ⟨List.mem_append_right _ (List.mem_append_right _ (List.mem_append_right _ (List.mem_append_right _ (List.mem_append_left _ (List.mem_of_getElem? (i := 105) rfl))))), rfl⟩
theorem zw_452 : (.constantLong "PlainStepsModel" 182 (-1) : Cond) ∈ zq_W := List.mem_filter.mpr ⟨List.mem_append_right _ (List.mem_append_right _ (List.mem_append_right _ (List.mem_append_right _ (List.mem_append_right _ (List.mem_of_getElem? (i := 119) rfl))))), rfl⟩
theorem zw_453 : (.fieldLink "PlainStepsModel" 31 "PlainStepsModel" "markedBefore" "[Z" : Cond) ∈ zq_W := List.mem_filter.mpr ⟨List.mem_append_right _ (List.mem_append_right _ (List.mem_append_right _ (List.mem_append_right _ (List.mem_append_left _ (List.mem_of_getElem? (i := 108) rfl))))), rfl⟩
theorem zw_454 : (.fieldLink "PlainStepsModel" 184 "PlainStepsModel" "wrote" "Z" : Cond) ∈ zq_W := List.mem_filter.mpr ⟨List.mem_append_right _ (List.mem_append_right _ (List.mem_append_right _ (List.mem_append_right _ (List.mem_append_left _ (List.mem_of_getElem? (i := 141) rfl))))), rfl⟩
theorem zw_455 : (.fieldLink "PlainStepsModel" 92 "PlainStepsModel" "writeTo" "[I" : Cond) ∈ zq_W := List.mem_filter.mpr ⟨List.mem_append_right _ (List.mem_append_right _ (List.mem_append_right _ (List.mem_append_right _ (List.mem_append_left _ (List.mem_of_getElem? (i := 145) rfl))))), rfl⟩
theorem zw_456 : (.fieldLink "PlainStepsModel" 187 "PlainStepsModel" "writes" "I" : Cond) ∈ zq_W := List.mem_filter.mpr ⟨List.mem_append_right _ (List.mem_append_right _ (List.mem_append_right _ (List.mem_append_right _ (List.mem_append_left _ (List.mem_of_getElem? (i := 144) rfl))))), rfl⟩
theorem zw_457 : (.fieldLink "PlainStepsModel" 95 "PlainStepsModel" "writeAt" "[I" : Cond) ∈ zq_W := List.mem_filter.mpr ⟨List.mem_append_right _ (List.mem_append_right _ (List.mem_append_right _ (List.mem_append_right _ (List.mem_append_left _ (List.mem_of_getElem? (i := 146) rfl))))), rfl⟩
theorem zw_458 : (.fieldLink "PlainStepsModel" 98 "PlainStepsModel" "writeValue" "[J" : Cond) ∈ zq_W := List.mem_filter.mpr ⟨List.mem_append_right _ (List.mem_append_right _ (List.mem_append_right _ (List.mem_append_right _ (List.mem_append_left _ (List.mem_of_getElem? (i := 147) rfl))))), rfl⟩
theorem zw_459 : (.fieldLink "PlainStepsModel" 101 "PlainStepsModel" "writeMark" "[Z" : Cond) ∈ zq_W := List.mem_filter.mpr ⟨List.mem_append_right _ (List.mem_append_right _ (List.mem_append_right _ (List.mem_append_right _ (List.mem_append_left _ (List.mem_of_getElem? (i := 148) rfl))))), rfl⟩
theorem zw_460 : (.methodLink "PlainStepsModel" 190 zy_M_cut : Cond) ∈ zq_W := List.mem_filter.mpr ⟨List.mem_append_right _ (List.mem_append_right _ (List.mem_append_right _ (List.mem_append_right _ (List.mem_append_right _ (List.mem_of_getElem? (i := 167) rfl))))), rfl⟩
theorem zw_461 : (.instanceMethod zy_M_cut : Cond) ∈ zq_W := List.mem_filter.mpr ⟨List.mem_append_right _ (List.mem_append_right _ (List.mem_append_right _ (List.mem_append_right _ (List.mem_append_right _ (List.mem_of_getElem? (i := 169) rfl))))), rfl⟩
theorem zw_462 : (.selects "PlainStepsModel" zy_M_cut zy_M_cut : Cond) ∈ zq_W := List.mem_filter.mpr ⟨List.mem_append_left _ (List.mem_of_getElem? (i := 36) rfl), rfl⟩
theorem zw_463 : (.code zy_M_cut zb_M_cut 4 (some .long) : Cond) ∈ zq_W := List.mem_filter.mpr ⟨List.mem_append_right _ (List.mem_append_right _ (List.mem_append_right _ (List.mem_append_right _ (List.mem_append_right _ (List.mem_of_getElem? (i := 170) rfl))))), rfl⟩
theorem zw_464 : (.methodLink "PlainStepsModel" 198 zy_M_setRegister : Cond) ∈ zq_W := List.mem_filter.mpr ⟨List.mem_append_right _ (List.mem_append_right _ (List.mem_append_right _ (List.mem_append_right _ (List.mem_append_right _ (List.mem_of_getElem? (i := 171) rfl))))), rfl⟩
theorem zw_465 : (.instanceMethod zy_M_setRegister : Cond) ∈ zq_W := List.mem_filter.mpr ⟨List.mem_append_right _ (List.mem_append_right _ (List.mem_append_right _ (List.mem_append_right _ (List.mem_append_right _ (List.mem_of_getElem? (i := 173) rfl))))), rfl⟩
theorem zw_466 : (.selects "PlainStepsModel" zy_M_setRegister zy_M_setRegister : Cond) ∈ zq_W := List.mem_filter.mpr ⟨List.mem_append_left _ (List.mem_of_getElem? (i := 37) rfl), rfl⟩
theorem zw_467 : (.code zy_M_setRegister zb_M_setRegister 5 none : Cond) ∈ zq_W := List.mem_filter.mpr ⟨List.mem_append_right _ (List.mem_append_right _ (List.mem_append_right _ (List.mem_append_right _ (List.mem_append_right _ (List.mem_of_getElem? (i := 174) rfl))))), rfl⟩
theorem zw_468 : (.methodLink "PlainStepsModel" 194 zy_M_later : Cond) ∈ zq_W := List.mem_filter.mpr ⟨List.mem_append_right _ (List.mem_append_right _ (List.mem_append_right _ (List.mem_append_right _ (List.mem_append_right _ (List.mem_of_getElem? (i := 128) rfl))))), rfl⟩
theorem zw_469 : (.instanceMethod zy_M_later : Cond) ∈ zq_W := List.mem_filter.mpr ⟨List.mem_append_right _ (List.mem_append_right _ (List.mem_append_right _ (List.mem_append_right _ (List.mem_append_right _ (List.mem_of_getElem? (i := 130) rfl))))), rfl⟩
theorem zw_470 : (.selects "PlainStepsModel" zy_M_later zy_M_later : Cond) ∈ zq_W := List.mem_filter.mpr ⟨List.mem_append_left _ (List.mem_of_getElem? (i := 29) rfl), rfl⟩
theorem zw_471 : (.code zy_M_later zb_M_later 6 none : Cond) ∈ zq_W := List.mem_filter.mpr ⟨List.mem_append_right _ (List.mem_append_right _ (List.mem_append_right _ (List.mem_append_right _ (List.mem_append_right _ (List.mem_of_getElem? (i := 131) rfl))))), rfl⟩
theorem zw_472 : (.methodLink "PlainStepsModel" 202 zy_M_setMemory : Cond) ∈ zq_W := List.mem_filter.mpr ⟨List.mem_append_right _ (List.mem_append_right _ (List.mem_append_right _ (List.mem_append_right _ (List.mem_append_right _ (List.mem_of_getElem? (i := 132) rfl))))), rfl⟩
theorem zw_473 : (.instanceMethod zy_M_setMemory : Cond) ∈ zq_W := List.mem_filter.mpr ⟨List.mem_append_right _ (List.mem_append_right _ (List.mem_append_right _ (List.mem_append_right _ (List.mem_append_right _ (List.mem_of_getElem? (i := 134) rfl))))), rfl⟩
theorem zw_474 : (.selects "PlainStepsModel" zy_M_setMemory zy_M_setMemory : Cond) ∈ zq_W := List.mem_filter.mpr ⟨List.mem_append_left _ (List.mem_of_getElem? (i := 30) rfl), rfl⟩
theorem zw_475 : (.code zy_M_setMemory zb_M_setMemory 5 none : Cond) ∈ zq_W := List.mem_filter.mpr ⟨List.mem_append_right _ (List.mem_append_right _ (List.mem_append_right _ (List.mem_append_right _ (List.mem_append_right _ (List.mem_of_getElem? (i := 135) rfl))))), rfl⟩
theorem zw_476 : (.constantLong "PlainStepsModel" 206 (-9223372036854775808) : Cond) ∈ zq_W := List.mem_filter.mpr ⟨List.mem_append_right _ (List.mem_append_right _ (List.mem_append_right _ (List.mem_append_right _ (List.mem_append_right _ (List.mem_of_getElem? (i := 161) rfl))))), rfl⟩
theorem zw_477 : (.methodLink "PlainStepsModel" 208 zy_M_isLess : Cond) ∈ zq_W := List.mem_filter.mpr ⟨List.mem_append_right _ (List.mem_append_right _ (List.mem_append_right _ (List.mem_append_right _ (List.mem_append_right _ (List.mem_of_getElem? (i := 158) rfl))))), rfl⟩
theorem zw_478 : (.static zy_M_isLess : Cond) ∈ zq_W := List.mem_filter.mpr ⟨List.mem_append_right _ (List.mem_append_right _ (List.mem_append_right _ (List.mem_append_right _ (List.mem_append_right _ (List.mem_of_getElem? (i := 159) rfl))))), rfl⟩
theorem zw_479 : (.code zy_M_isLess zb_M_isLess 4 (some .boolean) : Cond) ∈ zq_W := List.mem_filter.mpr ⟨List.mem_append_right _ (List.mem_append_right _ (List.mem_append_right _ (List.mem_append_right _ (List.mem_append_right _ (List.mem_of_getElem? (i := 160) rfl))))), rfl⟩
theorem zw_480 : (.methodLink "PlainStepsModel" 212 zy_M_quotient : Cond) ∈ zq_W := List.mem_filter.mpr ⟨List.mem_append_right _ (List.mem_append_right _ (List.mem_append_right _ (List.mem_append_right _ (List.mem_append_right _ (List.mem_of_getElem? (i := 155) rfl))))), rfl⟩
theorem zw_481 : (.static zy_M_quotient : Cond) ∈ zq_W := List.mem_filter.mpr ⟨List.mem_append_right _ (List.mem_append_right _ (List.mem_append_right _ (List.mem_append_right _ (List.mem_append_right _ (List.mem_of_getElem? (i := 156) rfl))))), rfl⟩
theorem zw_482 : (.code zy_M_quotient zb_M_quotient 8 (some .long) : Cond) ∈ zq_W := List.mem_filter.mpr ⟨List.mem_append_right _ (List.mem_append_right _ (List.mem_append_right _ (List.mem_append_right _ (List.mem_append_right _ (List.mem_of_getElem? (i := 157) rfl))))), rfl⟩
theorem zw_483 : (.constantLong "PlainStepsModel" 216 (63) : Cond) ∈ zq_W := List.mem_filter.mpr ⟨List.mem_append_right _ (List.mem_append_right _ (List.mem_append_right _ (List.mem_append_right _ (List.mem_append_right _ (List.mem_of_getElem? (i := 162) rfl))))), rfl⟩
theorem zw_484 : (.methodLink "PlainStepsModel" 218 zy_M_isMarked : Cond) ∈ zq_W := List.mem_filter.mpr ⟨List.mem_append_right _ (List.mem_append_right _ (List.mem_append_right _ (List.mem_append_right _ (List.mem_append_right _ (List.mem_of_getElem? (i := 148) rfl))))), rfl⟩
theorem zw_485 : (.instanceMethod zy_M_isMarked : Cond) ∈ zq_W := List.mem_filter.mpr ⟨List.mem_append_right _ (List.mem_append_right _ (List.mem_append_right _ (List.mem_append_right _ (List.mem_append_right _ (List.mem_of_getElem? (i := 150) rfl))))), rfl⟩
theorem zw_486 : (.selects "PlainStepsModel" zy_M_isMarked zy_M_isMarked : Cond) ∈ zq_W := List.mem_filter.mpr ⟨List.mem_append_left _ (List.mem_of_getElem? (i := 34) rfl), rfl⟩
theorem zw_487 : (.code zy_M_isMarked zb_M_isMarked 3 (some .boolean) : Cond) ∈ zq_W := List.mem_filter.mpr ⟨List.mem_append_right _ (List.mem_append_right _ (List.mem_append_right _ (List.mem_append_right _ (List.mem_append_right _ (List.mem_of_getElem? (i := 151) rfl))))), rfl⟩
theorem zw_488 : (.fieldLink "PlainStepsModel" 222 "PlainStepsModel" "fault" "I" : Cond) ∈ zq_W := List.mem_filter.mpr ⟨List.mem_append_right _ (List.mem_append_right _ (List.mem_append_right _ (List.mem_append_right _ (List.mem_append_left _ (List.mem_of_getElem? (i := 138) rfl))))), rfl⟩
theorem zw_489 : (.methodLink "PlainStepsModel" 232 zy_M_isThere : Cond) ∈ zq_W := List.mem_filter.mpr ⟨List.mem_append_right _ (List.mem_append_right _ (List.mem_append_right _ (List.mem_append_right _ (List.mem_append_right _ (List.mem_of_getElem? (i := 124) rfl))))), rfl⟩
theorem zw_490 : (.instanceMethod zy_M_isThere : Cond) ∈ zq_W := List.mem_filter.mpr ⟨List.mem_append_right _ (List.mem_append_right _ (List.mem_append_right _ (List.mem_append_right _ (List.mem_append_right _ (List.mem_of_getElem? (i := 126) rfl))))), rfl⟩
theorem zw_491 : (.selects "PlainStepsModel" zy_M_isThere zy_M_isThere : Cond) ∈ zq_W := List.mem_filter.mpr ⟨List.mem_append_left _ (List.mem_of_getElem? (i := 28) rfl), rfl⟩
theorem zw_492 : (.code zy_M_isThere zb_M_isThere 4 (some .boolean) : Cond) ∈ zq_W := List.mem_filter.mpr ⟨List.mem_append_right _ (List.mem_append_right _ (List.mem_append_right _ (List.mem_append_right _ (List.mem_append_right _ (List.mem_of_getElem? (i := 127) rfl))))), rfl⟩
theorem zw_493 : (.methodLink "PlainStepsModel" 229 zy_M_result : Cond) ∈ zq_W := List.mem_filter.mpr ⟨List.mem_append_right _ (List.mem_append_right _ (List.mem_append_right _ (List.mem_append_right _ (List.mem_append_right _ (List.mem_of_getElem? (i := 163) rfl))))), rfl⟩
theorem zw_494 : (.instanceMethod zy_M_result : Cond) ∈ zq_W := List.mem_filter.mpr ⟨List.mem_append_right _ (List.mem_append_right _ (List.mem_append_right _ (List.mem_append_right _ (List.mem_append_right _ (List.mem_of_getElem? (i := 165) rfl))))), rfl⟩
theorem zw_495 : (.selects "PlainStepsModel" zy_M_result zy_M_result : Cond) ∈ zq_W := List.mem_filter.mpr ⟨List.mem_append_left _ (List.mem_of_getElem? (i := 35) rfl), rfl⟩
theorem zw_496 : (.code zy_M_result zb_M_result 8 none : Cond) ∈ zq_W := List.mem_filter.mpr ⟨List.mem_append_right _ (List.mem_append_right _ (List.mem_append_right _ (List.mem_append_right _ (List.mem_append_right _ (List.mem_of_getElem? (i := 166) rfl))))), rfl⟩
theorem zw_497 : (.methodLink "PlainStepsModel" 225 zy_M_simple : Cond) ∈ zq_W := List.mem_filter.mpr ⟨List.mem_append_right _ (List.mem_append_right _ (List.mem_append_right _ (List.mem_append_right _ (List.mem_append_right _ (List.mem_of_getElem? (i := 152) rfl))))), rfl⟩
theorem zw_498 : (.static zy_M_simple : Cond) ∈ zq_W := List.mem_filter.mpr ⟨List.mem_append_right _ (List.mem_append_right _ (List.mem_append_right _ (List.mem_append_right _ (List.mem_append_right _ (List.mem_of_getElem? (i := 153) rfl))))), rfl⟩
theorem zw_499 : (.code zy_M_simple zb_M_simple 5 (some .long) : Cond) ∈ zq_W := List.mem_filter.mpr ⟨List.mem_append_right _ (List.mem_append_right _ (List.mem_append_right _ (List.mem_append_right _ (List.mem_append_right _ (List.mem_of_getElem? (i := 154) rfl))))), rfl⟩
theorem zw_500 : (.methodLink "PlainStepsModel" 236 zy_M_operand : Cond) ∈ zq_W := List.mem_filter.mpr ⟨List.mem_append_right _ (List.mem_append_right _ (List.mem_append_right _ (List.mem_append_right _ (List.mem_append_right _ (List.mem_of_getElem? (i := 111) rfl))))), rfl⟩
theorem zw_501 : (.instanceMethod zy_M_operand : Cond) ∈ zq_W := List.mem_filter.mpr ⟨List.mem_append_right _ (List.mem_append_right _ (List.mem_append_right _ (List.mem_append_right _ (List.mem_append_right _ (List.mem_of_getElem? (i := 113) rfl))))), rfl⟩
theorem zw_502 : (.selects "PlainStepsModel" zy_M_operand zy_M_operand : Cond) ∈ zq_W := List.mem_filter.mpr ⟨List.mem_append_left _ (List.mem_of_getElem? (i := 25) rfl), rfl⟩
theorem zw_503 : (.code zy_M_operand zb_M_operand 7 (some .long) : Cond) ∈ zq_W := List.mem_filter.mpr ⟨List.mem_append_right _ (List.mem_append_right _ (List.mem_append_right _ (List.mem_append_right _ (List.mem_append_right _ (List.mem_of_getElem? (i := 114) rfl))))), rfl⟩
theorem zw_504 : (.methodLink "PlainStepsModel" 240 zy_M_store : Cond) ∈ zq_W := List.mem_filter.mpr ⟨List.mem_append_right _ (List.mem_append_right _ (List.mem_append_right _ (List.mem_append_right _ (List.mem_append_right _ (List.mem_of_getElem? (i := 120) rfl))))), rfl⟩
theorem zw_505 : (.instanceMethod zy_M_store : Cond) ∈ zq_W := List.mem_filter.mpr ⟨List.mem_append_right _ (List.mem_append_right _ (List.mem_append_right _ (List.mem_append_right _ (List.mem_append_right _ (List.mem_of_getElem? (i := 122) rfl))))), rfl⟩
theorem zw_506 : (.selects "PlainStepsModel" zy_M_store zy_M_store : Cond) ∈ zq_W := List.mem_filter.mpr ⟨List.mem_append_left _ (List.mem_of_getElem? (i := 27) rfl), rfl⟩
theorem zw_507 : (.code zy_M_store zb_M_store 7 none : Cond) ∈ zq_W := List.mem_filter.mpr ⟨List.mem_append_right _ (List.mem_append_right _ (List.mem_append_right _ (List.mem_append_right _ (List.mem_append_right _ (List.mem_of_getElem? (i := 123) rfl))))), rfl⟩
theorem zw_508 : (.fieldLink "PlainStepsModel" 244 "PlainStepsModel" "ends" "Z" : Cond) ∈ zq_W := List.mem_filter.mpr ⟨List.mem_append_right _ (List.mem_append_right _ (List.mem_append_right _ (List.mem_append_right _ (List.mem_append_left _ (List.mem_of_getElem? (i := 139) rfl))))), rfl⟩
theorem zw_509 : (.methodLink "PlainStepsModel" 247 zy_M_markOnly : Cond) ∈ zq_W := List.mem_filter.mpr ⟨List.mem_append_right _ (List.mem_append_right _ (List.mem_append_right _ (List.mem_append_right _ (List.mem_append_right _ (List.mem_of_getElem? (i := 136) rfl))))), rfl⟩
theorem zw_510 : (.instanceMethod zy_M_markOnly : Cond) ∈ zq_W := List.mem_filter.mpr ⟨List.mem_append_right _ (List.mem_append_right _ (List.mem_append_right _ (List.mem_append_right _ (List.mem_append_right _ (List.mem_of_getElem? (i := 138) rfl))))), rfl⟩
theorem zw_511 : (.selects "PlainStepsModel" zy_M_markOnly zy_M_markOnly : Cond) ∈ zq_W := List.mem_filter.mpr ⟨List.mem_append_left _ (List.mem_of_getElem? (i := 31) rfl), rfl⟩
theorem zw_512 : (.code zy_M_markOnly zb_M_markOnly 3 none : Cond) ∈ zq_W := List.mem_filter.mpr ⟨List.mem_append_right _ (List.mem_append_right _ (List.mem_append_right _ (List.mem_append_right _ (List.mem_append_right _ (List.mem_of_getElem? (i := 139) rfl))))), rfl⟩
theorem zw_513 : (.fieldLink "PlainStepsModel" 251 "PlainStepsModel" "halts" "Z" : Cond) ∈ zq_W := List.mem_filter.mpr ⟨List.mem_append_right _ (List.mem_append_right _ (List.mem_append_right _ (List.mem_append_right _ (List.mem_append_left _ (List.mem_of_getElem? (i := 140) rfl))))), rfl⟩
theorem zw_514 : (.methodLink "PlainStepsModel" 254 zy_M_back : Cond) ∈ zq_W := List.mem_filter.mpr ⟨List.mem_append_right _ (List.mem_append_right _ (List.mem_append_right _ (List.mem_append_right _ (List.mem_append_right _ (List.mem_of_getElem? (i := 140) rfl))))), rfl⟩
theorem zw_515 : (.instanceMethod zy_M_back : Cond) ∈ zq_W := List.mem_filter.mpr ⟨List.mem_append_right _ (List.mem_append_right _ (List.mem_append_right _ (List.mem_append_right _ (List.mem_append_right _ (List.mem_of_getElem? (i := 142) rfl))))), rfl⟩
theorem zw_516 : (.selects "PlainStepsModel" zy_M_back zy_M_back : Cond) ∈ zq_W := List.mem_filter.mpr ⟨List.mem_append_left _ (List.mem_of_getElem? (i := 32) rfl), rfl⟩
theorem zw_517 : (.code zy_M_back zb_M_back 1 none : Cond) ∈ zq_W := List.mem_filter.mpr ⟨List.mem_append_right _ (List.mem_append_right _ (List.mem_append_right _ (List.mem_append_right _ (List.mem_append_right _ (List.mem_of_getElem? (i := 143) rfl))))), rfl⟩
theorem zw_518 : (.methodLink "PlainStepsModel" 257 zy_M_compute : Cond) ∈ zq_W := List.mem_filter.mpr ⟨List.mem_append_right _ (List.mem_append_right _ (List.mem_append_right _ (List.mem_append_right _ (List.mem_append_right _ (List.mem_of_getElem? (i := 144) rfl))))), rfl⟩
theorem zw_519 : (.instanceMethod zy_M_compute : Cond) ∈ zq_W := List.mem_filter.mpr ⟨List.mem_append_right _ (List.mem_append_right _ (List.mem_append_right _ (List.mem_append_right _ (List.mem_append_right _ (List.mem_of_getElem? (i := 146) rfl))))), rfl⟩
theorem zw_520 : (.selects "PlainStepsModel" zy_M_compute zy_M_compute : Cond) ∈ zq_W := List.mem_filter.mpr ⟨List.mem_append_left _ (List.mem_of_getElem? (i := 33) rfl), rfl⟩
theorem zw_521 : (.code zy_M_compute zb_M_compute 10 none : Cond) ∈ zq_W := List.mem_filter.mpr ⟨List.mem_append_right _ (List.mem_append_right _ (List.mem_append_right _ (List.mem_append_right _ (List.mem_append_right _ (List.mem_of_getElem? (i := 147) rfl))))), rfl⟩
theorem zw_522 : (.fieldLink "PlainStepsModel" 24 "PlainStepsModel" "saved" "[J" : Cond) ∈ zq_W := List.mem_filter.mpr ⟨List.mem_append_right _ (List.mem_append_right _ (List.mem_append_right _ (List.mem_append_right _ (List.mem_append_left _ (List.mem_of_getElem? (i := 106) rfl))))), rfl⟩
theorem zw_523 : (.fieldLink "PlainStepsModel" 34 "PlainStepsModel" "markedSaved" "[Z" : Cond) ∈ zq_W := List.mem_filter.mpr ⟨List.mem_append_right _ (List.mem_append_right _ (List.mem_append_right _ (List.mem_append_right _ (List.mem_append_left _ (List.mem_of_getElem? (i := 109) rfl))))), rfl⟩
theorem zw_524 : (.fieldLink "PlainStepsModel" 261 "PlainStepsModel" "levelSaved" "I" : Cond) ∈ zq_W := List.mem_filter.mpr ⟨List.mem_append_right _ (List.mem_append_right _ (List.mem_append_right _ (List.mem_append_right _ (List.mem_append_left _ (List.mem_of_getElem? (i := 132) rfl))))), rfl⟩
theorem zw_525 : (.fieldLink "PlainStepsModel" 264 "PlainStepsModel" "keptSaved" "I" : Cond) ∈ zq_W := List.mem_filter.mpr ⟨List.mem_append_right _ (List.mem_append_right _ (List.mem_append_right _ (List.mem_append_right _ (List.mem_append_left _ (List.mem_of_getElem? (i := 133) rfl))))), rfl⟩
theorem zw_526 : (.fieldLink "PlainStepsModel" 41 "PlainStepsModel" "memorySaved" "[B" : Cond) ∈ zq_W := List.mem_filter.mpr ⟨List.mem_append_right _ (List.mem_append_right _ (List.mem_append_right _ (List.mem_append_right _ (List.mem_append_left _ (List.mem_of_getElem? (i := 111) rfl))))), rfl⟩
theorem zw_527 : (.methodLink "PlainStepsModel" 267 zy_M_doTransfer : Cond) ∈ zq_W := List.mem_filter.mpr ⟨List.mem_append_right _ (List.mem_append_right _ (List.mem_append_right _ (List.mem_append_right _ (List.mem_append_right _ (List.mem_of_getElem? (i := 107) rfl))))), rfl⟩
theorem zw_528 : (.instanceMethod zy_M_doTransfer : Cond) ∈ zq_W := List.mem_filter.mpr ⟨List.mem_append_right _ (List.mem_append_right _ (List.mem_append_right _ (List.mem_append_right _ (List.mem_append_right _ (List.mem_of_getElem? (i := 109) rfl))))), rfl⟩
theorem zw_529 : (.selects "PlainStepsModel" zy_M_doTransfer zy_M_doTransfer : Cond) ∈ zq_W := List.mem_filter.mpr ⟨List.mem_append_left _ (List.mem_of_getElem? (i := 24) rfl), rfl⟩
theorem zw_530 : (.code zy_M_doTransfer zb_M_doTransfer 7 none : Cond) ∈ zq_W := List.mem_filter.mpr ⟨List.mem_append_right _ (List.mem_append_right _ (List.mem_append_right _ (List.mem_append_right _ (List.mem_append_right _ (List.mem_of_getElem? (i := 110) rfl))))), rfl⟩
theorem zw_531 : (.methodLink "PlainStepsModel" 270 zy_M_writeAll : Cond) ∈ zq_W := List.mem_filter.mpr ⟨List.mem_append_right _ (List.mem_append_right _ (List.mem_append_right _ (List.mem_append_right _ (List.mem_append_right _ (List.mem_of_getElem? (i := 175) rfl))))), rfl⟩
theorem zw_532 : (.instanceMethod zy_M_writeAll : Cond) ∈ zq_W := List.mem_filter.mpr ⟨List.mem_append_right _ (List.mem_append_right _ (List.mem_append_right _ (List.mem_append_right _ (List.mem_append_right _ (List.mem_of_getElem? (i := 177) rfl))))), rfl⟩
theorem zw_533 : (.selects "PlainStepsModel" zy_M_writeAll zy_M_writeAll : Cond) ∈ zq_W := List.mem_filter.mpr ⟨List.mem_append_left _ (List.mem_of_getElem? (i := 38) rfl), rfl⟩
theorem zw_534 : (.code zy_M_writeAll zb_M_writeAll 3 none : Cond) ∈ zq_W := List.mem_filter.mpr ⟨List.mem_append_right _ (List.mem_append_right _ (List.mem_append_right _ (List.mem_append_right _ (List.mem_append_right _ (List.mem_of_getElem? (i := 178) rfl))))), rfl⟩
theorem zw_535 : (.fieldLink "PlainStepsModel" 274 "PlainStepsModel" "waitsPlace" "J" : Cond) ∈ zq_W := List.mem_filter.mpr ⟨List.mem_append_right _ (List.mem_append_right _ (List.mem_append_right _ (List.mem_append_right _ (List.mem_append_left _ (List.mem_of_getElem? (i := 143) rfl))))), rfl⟩
theorem zw_536 : (.constant "PlainStepsModel" 273 (65535) : Cond) ∈ zq_W := List.mem_filter.mpr ⟨List.mem_append_right _ (List.mem_append_right _ (List.mem_append_right _ (List.mem_append_right _ (List.mem_append_right _ (List.mem_of_getElem? (i := 102) rfl))))), rfl⟩
theorem zw_537 : (.methodLink "PlainStepsModel" 278 zy_M_takeFault : Cond) ∈ zq_W := List.mem_filter.mpr ⟨List.mem_append_right _ (List.mem_append_right _ (List.mem_append_right _ (List.mem_append_right _ (List.mem_append_right _ (List.mem_of_getElem? (i := 86) rfl))))), rfl⟩
theorem zw_538 : (.instanceMethod zy_M_takeFault : Cond) ∈ zq_W := List.mem_filter.mpr ⟨List.mem_append_right _ (List.mem_append_right _ (List.mem_append_right _ (List.mem_append_right _ (List.mem_append_right _ (List.mem_of_getElem? (i := 88) rfl))))), rfl⟩
theorem zw_539 : (.selects "PlainStepsModel" zy_M_takeFault zy_M_takeFault : Cond) ∈ zq_W := List.mem_filter.mpr ⟨List.mem_append_left _ (List.mem_of_getElem? (i := 19) rfl), rfl⟩
theorem zw_540 : (.code zy_M_takeFault zb_M_takeFault 2 none : Cond) ∈ zq_W := List.mem_filter.mpr ⟨List.mem_append_right _ (List.mem_append_right _ (List.mem_append_right _ (List.mem_append_right _ (List.mem_append_right _ (List.mem_of_getElem? (i := 89) rfl))))), rfl⟩
theorem zw_541 : (.methodLink "PlainStepsModel" 282 zy_M_find : Cond) ∈ zq_W := List.mem_filter.mpr ⟨List.mem_append_right _ (List.mem_append_right _ (List.mem_append_right _ (List.mem_append_right _ (List.mem_append_right _ (List.mem_of_getElem? (i := 94) rfl))))), rfl⟩
theorem zw_542 : (.instanceMethod zy_M_find : Cond) ∈ zq_W := List.mem_filter.mpr ⟨List.mem_append_right _ (List.mem_append_right _ (List.mem_append_right _ (List.mem_append_right _ (List.mem_append_right _ (List.mem_of_getElem? (i := 96) rfl))))), rfl⟩
theorem zw_543 : (.selects "PlainStepsModel" zy_M_find zy_M_find : Cond) ∈ zq_W := List.mem_filter.mpr ⟨List.mem_append_left _ (List.mem_of_getElem? (i := 21) rfl), rfl⟩
theorem zw_544 : (.code zy_M_find zb_M_find 2 (some .int) : Cond) ∈ zq_W := List.mem_filter.mpr ⟨List.mem_append_right _ (List.mem_append_right _ (List.mem_append_right _ (List.mem_append_right _ (List.mem_append_right _ (List.mem_of_getElem? (i := 97) rfl))))), rfl⟩
theorem zw_545 : (.methodLink "PlainStepsModel" 286 zy_M_save : Cond) ∈ zq_W := List.mem_filter.mpr ⟨List.mem_append_right _ (List.mem_append_right _ (List.mem_append_right _ (List.mem_append_right _ (List.mem_append_right _ (List.mem_of_getElem? (i := 98) rfl))))), rfl⟩
theorem zw_546 : (.instanceMethod zy_M_save : Cond) ∈ zq_W := List.mem_filter.mpr ⟨List.mem_append_right _ (List.mem_append_right _ (List.mem_append_right _ (List.mem_append_right _ (List.mem_append_right _ (List.mem_of_getElem? (i := 100) rfl))))), rfl⟩
theorem zw_547 : (.selects "PlainStepsModel" zy_M_save zy_M_save : Cond) ∈ zq_W := List.mem_filter.mpr ⟨List.mem_append_left _ (List.mem_of_getElem? (i := 22) rfl), rfl⟩
theorem zw_548 : (.code zy_M_save zb_M_save 2 none : Cond) ∈ zq_W := List.mem_filter.mpr ⟨List.mem_append_right _ (List.mem_append_right _ (List.mem_append_right _ (List.mem_append_right _ (List.mem_append_right _ (List.mem_of_getElem? (i := 101) rfl))))), rfl⟩
theorem zw_549 : (.methodLink "PlainStepsModel" 289 zy_M_doAll : Cond) ∈ zq_W := List.mem_filter.mpr ⟨List.mem_append_right _ (List.mem_append_right _ (List.mem_append_right _ (List.mem_append_right _ (List.mem_append_right _ (List.mem_of_getElem? (i := 103) rfl))))), rfl⟩
theorem zw_550 : (.instanceMethod zy_M_doAll : Cond) ∈ zq_W := List.mem_filter.mpr ⟨List.mem_append_right _ (List.mem_append_right _ (List.mem_append_right _ (List.mem_append_right _ (List.mem_append_right _ (List.mem_of_getElem? (i := 105) rfl))))), rfl⟩
theorem zw_551 : (.selects "PlainStepsModel" zy_M_doAll zy_M_doAll : Cond) ∈ zq_W := List.mem_filter.mpr ⟨List.mem_append_left _ (List.mem_of_getElem? (i := 23) rfl), rfl⟩
theorem zw_552 : (.code zy_M_doAll zb_M_doAll 3 none : Cond) ∈ zq_W := List.mem_filter.mpr ⟨List.mem_append_right _ (List.mem_append_right _ (List.mem_append_right _ (List.mem_append_right _ (List.mem_append_right _ (List.mem_of_getElem? (i := 106) rfl))))), rfl⟩
theorem zw_553 : (.methodLink "PlainStepsModel" 295 zy_M_comePlace : Cond) ∈ zq_W := List.mem_filter.mpr ⟨List.mem_append_right _ (List.mem_append_right _ (List.mem_append_right _ (List.mem_append_right _ (List.mem_append_right _ (List.mem_of_getElem? (i := 183) rfl))))), rfl⟩
theorem zw_554 : (.instanceMethod zy_M_comePlace : Cond) ∈ zq_W := List.mem_filter.mpr ⟨List.mem_append_right _ (List.mem_append_right _ (List.mem_append_right _ (List.mem_append_right _ (List.mem_append_right _ (List.mem_of_getElem? (i := 185) rfl))))), rfl⟩
theorem zw_555 : (.selects "PlainStepsModel" zy_M_comePlace zy_M_comePlace : Cond) ∈ zq_W := List.mem_filter.mpr ⟨List.mem_append_left _ (List.mem_of_getElem? (i := 40) rfl), rfl⟩
theorem zw_556 : (.code zy_M_comePlace zb_M_comePlace 5 none : Cond) ∈ zq_W := List.mem_filter.mpr ⟨List.mem_append_right _ (List.mem_append_right _ (List.mem_append_right _ (List.mem_append_right _ (List.mem_append_right _ (List.mem_of_getElem? (i := 186) rfl))))), rfl⟩
theorem zw_557 : (.methodLink "PlainStepsModel" 292 zy_M_restore : Cond) ∈ zq_W := List.mem_filter.mpr ⟨List.mem_append_right _ (List.mem_append_right _ (List.mem_append_right _ (List.mem_append_right _ (List.mem_append_right _ (List.mem_of_getElem? (i := 179) rfl))))), rfl⟩
theorem zw_558 : (.instanceMethod zy_M_restore : Cond) ∈ zq_W := List.mem_filter.mpr ⟨List.mem_append_right _ (List.mem_append_right _ (List.mem_append_right _ (List.mem_append_right _ (List.mem_append_right _ (List.mem_of_getElem? (i := 181) rfl))))), rfl⟩
theorem zw_559 : (.selects "PlainStepsModel" zy_M_restore zy_M_restore : Cond) ∈ zq_W := List.mem_filter.mpr ⟨List.mem_append_left _ (List.mem_of_getElem? (i := 39) rfl), rfl⟩
theorem zw_560 : (.code zy_M_restore zb_M_restore 2 none : Cond) ∈ zq_W := List.mem_filter.mpr ⟨List.mem_append_right _ (List.mem_append_right _ (List.mem_append_right _ (List.mem_append_right _ (List.mem_append_right _ (List.mem_of_getElem? (i := 182) rfl))))), rfl⟩
theorem zw_561 : (.methodLink "PlainStepsModel" 298 zy_M_waitingLine : Cond) ∈ zq_W := List.mem_filter.mpr ⟨List.mem_append_right _ (List.mem_append_right _ (List.mem_append_right _ (List.mem_append_right _ (List.mem_append_right _ (List.mem_of_getElem? (i := 78) rfl))))), rfl⟩
theorem zw_562 : (.instanceMethod zy_M_waitingLine : Cond) ∈ zq_W := List.mem_filter.mpr ⟨List.mem_append_right _ (List.mem_append_right _ (List.mem_append_right _ (List.mem_append_right _ (List.mem_append_right _ (List.mem_of_getElem? (i := 80) rfl))))), rfl⟩
theorem zw_563 : (.selects "PlainStepsModel" zy_M_waitingLine zy_M_waitingLine : Cond) ∈ zq_W := List.mem_filter.mpr ⟨List.mem_append_left _ (List.mem_of_getElem? (i := 17) rfl), rfl⟩
theorem zw_564 : (.code zy_M_waitingLine zb_M_waitingLine 3 (some .int) : Cond) ∈ zq_W := List.mem_filter.mpr ⟨List.mem_append_right _ (List.mem_append_right _ (List.mem_append_right _ (List.mem_append_right _ (List.mem_append_right _ (List.mem_of_getElem? (i := 81) rfl))))), rfl⟩
theorem zw_565 : (.methodLink "PlainStepsModel" 301 zy_M_doInstruction : Cond) ∈ zq_W := List.mem_filter.mpr ⟨List.mem_append_right _ (List.mem_append_right _ (List.mem_append_right _ (List.mem_append_right _ (List.mem_append_right _ (List.mem_of_getElem? (i := 82) rfl))))), rfl⟩
theorem zw_566 : (.instanceMethod zy_M_doInstruction : Cond) ∈ zq_W := List.mem_filter.mpr ⟨List.mem_append_right _ (List.mem_append_right _ (List.mem_append_right _ (List.mem_append_right _ (List.mem_append_right _ (List.mem_of_getElem? (i := 84) rfl))))), rfl⟩
theorem zw_567 : (.selects "PlainStepsModel" zy_M_doInstruction zy_M_doInstruction : Cond) ∈ zq_W := List.mem_filter.mpr ⟨List.mem_append_left _ (List.mem_of_getElem? (i := 18) rfl), rfl⟩
theorem zw_568 : (.code zy_M_doInstruction zb_M_doInstruction 3 none : Cond) ∈ zq_W := List.mem_filter.mpr ⟨List.mem_append_right _ (List.mem_append_right _ (List.mem_append_right _ (List.mem_append_right _ (List.mem_append_right _ (List.mem_of_getElem? (i := 85) rfl))))), rfl⟩
theorem zw_569 : (.constantLong "PlainStepsModel" 304 (5000) : Cond) ∈ zq_W := List.mem_filter.mpr ⟨List.mem_append_right _ (List.mem_append_right _ (List.mem_append_right _ (List.mem_append_right _ (List.mem_append_right _ (List.mem_of_getElem? (i := 73) rfl))))), rfl⟩
theorem zw_570 : (.methodLink "PlainStepsModel" 306 zy_M_stepOnce : Cond) ∈ zq_W := List.mem_filter.mpr ⟨List.mem_append_right _ (List.mem_append_right _ (List.mem_append_right _ (List.mem_append_right _ (List.mem_append_right _ (List.mem_of_getElem? (i := 74) rfl))))), rfl⟩
theorem zw_571 : (.instanceMethod zy_M_stepOnce : Cond) ∈ zq_W := List.mem_filter.mpr ⟨List.mem_append_right _ (List.mem_append_right _ (List.mem_append_right _ (List.mem_append_right _ (List.mem_append_right _ (List.mem_of_getElem? (i := 76) rfl))))), rfl⟩
theorem zw_572 : (.selects "PlainStepsModel" zy_M_stepOnce zy_M_stepOnce : Cond) ∈ zq_W := List.mem_filter.mpr ⟨List.mem_append_left _ (List.mem_of_getElem? (i := 16) rfl), rfl⟩
theorem zw_573 : (.code zy_M_stepOnce zb_M_stepOnce 2 none : Cond) ∈ zq_W := List.mem_filter.mpr ⟨List.mem_append_right _ (List.mem_append_right _ (List.mem_append_right _ (List.mem_append_right _ (List.mem_append_right _ (List.mem_of_getElem? (i := 77) rfl))))), rfl⟩
theorem zw_574 : (.methodLink "PlainStepsModel" 309 zy_M_isRegister : Cond) ∈ zq_W := List.mem_filter.mpr ⟨List.mem_append_right _ (List.mem_append_right _ (List.mem_append_right _ (List.mem_append_right _ (List.mem_append_right _ (List.mem_of_getElem? (i := 191) rfl))))), rfl⟩
theorem zw_575 : (.instanceMethod zy_M_isRegister : Cond) ∈ zq_W := List.mem_filter.mpr ⟨List.mem_append_right _ (List.mem_append_right _ (List.mem_append_right _ (List.mem_append_right _ (List.mem_append_right _ (List.mem_of_getElem? (i := 193) rfl))))), rfl⟩
theorem zw_576 : (.selects "PlainStepsModel" zy_M_isRegister zy_M_isRegister : Cond) ∈ zq_W := List.mem_filter.mpr ⟨List.mem_append_left _ (List.mem_of_getElem? (i := 41) rfl), rfl⟩
theorem zw_577 : (.code zy_M_isRegister zb_M_isRegister 2 (some .boolean) : Cond) ∈ zq_W := List.mem_filter.mpr ⟨List.mem_append_right _ (List.mem_append_right _ (List.mem_append_right _ (List.mem_append_right _ (List.mem_append_right _ (List.mem_of_getElem? (i := 194) rfl))))), rfl⟩
theorem zw_578 : (.constantLong "PlainStepsModel" 312 (14) : Cond) ∈ zq_W := List.mem_filter.mpr ⟨List.mem_append_right _ (List.mem_append_right _ (List.mem_append_right _ (List.mem_append_right _ (List.mem_append_right _ (List.mem_of_getElem? (i := 211) rfl))))), rfl⟩
theorem zw_579 : (.constantLong "PlainStepsModel" 314 (8) : Cond) ∈ zq_W := List.mem_filter.mpr ⟨List.mem_append_right _ (List.mem_append_right _ (List.mem_append_right _ (List.mem_append_right _ (List.mem_append_right _ (List.mem_of_getElem? (i := 224) rfl))))), rfl⟩
theorem zw_580 : (.methodLink "PlainSteps$Registers" 3 objectInit : Cond) ∈ zq_W := List.mem_filter.mpr ⟨List.mem_append_right _ (List.mem_append_left _ (List.mem_of_getElem? (i := 32) rfl)), rfl⟩
theorem zw_581 : (.instanceMethod objectInit : Cond) ∈ zq_W := List.mem_filter.mpr ⟨List.mem_append_right _ (List.mem_append_left _ (List.mem_of_getElem? (i := 25) rfl)), rfl⟩
theorem zw_582 : (.code objectInit ⟨#[0xb1]⟩ 1 none : Cond) ∈ zq_W := List.mem_filter.mpr ⟨List.mem_append_right _ (List.mem_append_left _ (List.mem_of_getElem? (i := 26) rfl)), rfl⟩
theorem zw_583 : (.arrayClass .long : Cond) ∈ zq_W := List.mem_filter.mpr ⟨List.mem_append_right _ (List.mem_append_left _ (List.mem_of_getElem? (i := 48) rfl)), rfl⟩
theorem zw_584 : (.arrayClass .boolean : Cond) ∈ zq_W := List.mem_filter.mpr ⟨List.mem_append_right _ (List.mem_append_left _ (List.mem_of_getElem? (i := 49) rfl)), rfl⟩
theorem zw_585 : (.constantLong "PlainSteps$Registers" 22 (65535) : Cond) ∈ zq_W := List.mem_filter.mpr ⟨List.mem_append_right _ (List.mem_append_left _ (List.mem_of_getElem? (i := 33) rfl)), rfl⟩
theorem zw_586 : (.methodLink "PlainSteps$Bytes" 3 objectInit : Cond) ∈ zq_W := List.mem_filter.mpr ⟨List.mem_append_right _ (List.mem_append_left _ (List.mem_of_getElem? (i := 55) rfl)), rfl⟩
theorem zw_587 : (.arrayClass .byte : Cond) ∈ zq_W := List.mem_filter.mpr ⟨List.mem_append_right _ (List.mem_append_left _ (List.mem_of_getElem? (i := 60) rfl)), rfl⟩
theorem zw_588 : (.methodLink "PlainSteps$Operands" 3 objectInit : Cond) ∈ zq_W := List.mem_filter.mpr ⟨List.mem_append_right _ (List.mem_append_left _ (List.mem_of_getElem? (i := 66) rfl)), rfl⟩
theorem zw_589 : (.arrayClass .int : Cond) ∈ zq_W := List.mem_filter.mpr ⟨List.mem_append_right _ (List.mem_append_left _ (List.mem_of_getElem? (i := 91) rfl)), rfl⟩
theorem zw_590 : (.methodLink "PlainSteps$Program" 3 objectInit : Cond) ∈ zq_W := List.mem_filter.mpr ⟨List.mem_append_right _ (List.mem_append_left _ (List.mem_of_getElem? (i := 97) rfl)), rfl⟩
theorem zw_591 : (.methodLink "PlainSteps$Kept" 3 objectInit : Cond) ∈ zq_W := List.mem_filter.mpr ⟨List.mem_append_right _ (List.mem_append_left _ (List.mem_of_getElem? (i := 145) rfl)), rfl⟩
theorem zw_592 : (.methodLink "PlainSteps$Lines" 3 objectInit : Cond) ∈ zq_W := List.mem_filter.mpr ⟨List.mem_append_right _ (List.mem_append_left _ (List.mem_of_getElem? (i := 169) rfl)), rfl⟩
theorem zw_593 : (.methodLink "PlainSteps$Writes" 3 objectInit : Cond) ∈ zq_W := List.mem_filter.mpr ⟨List.mem_append_right _ (List.mem_append_left _ (List.mem_of_getElem? (i := 188) rfl)), rfl⟩
theorem zw_594 : (.methodLink "PlainSteps$Work" 3 objectInit : Cond) ∈ zq_W := List.mem_filter.mpr ⟨List.mem_append_right _ (List.mem_append_left _ (List.mem_of_getElem? (i := 182) rfl)), rfl⟩
theorem zw_595 : (.classLink "PlainSteps$Work" 35 "PlainSteps$Writes" : Cond) ∈ zq_W := List.mem_filter.mpr ⟨List.mem_append_right _ (List.mem_append_left _ (List.mem_of_getElem? (i := 183) rfl)), rfl⟩
theorem zw_596 : (.instantiable "PlainSteps$Writes" 6 : Cond) ∈ zq_W := List.mem_filter.mpr ⟨List.mem_append_right _ (List.mem_append_left _ (List.mem_of_getElem? (i := 184) rfl)), rfl⟩
theorem zw_597 : (.code zy_Writes_init zb_Writes_init 3 none : Cond) ∈ zq_W := List.mem_filter.mpr ⟨List.mem_append_right _ (List.mem_append_left _ (List.mem_of_getElem? (i := 187) rfl)), rfl⟩
theorem zw_598 : (.methodLink "PlainSteps$Work" 37 zy_Writes_init : Cond) ∈ zq_W := List.mem_filter.mpr ⟨List.mem_append_right _ (List.mem_append_left _ (List.mem_of_getElem? (i := 185) rfl)), rfl⟩
theorem zw_599 : (.instanceMethod zy_Writes_init : Cond) ∈ zq_W := List.mem_filter.mpr ⟨List.mem_append_right _ (List.mem_append_left _ (List.mem_of_getElem? (i := 186) rfl)), rfl⟩
theorem zw_600 : (.methodLink "PlainSteps$Machine" 3 objectInit : Cond) ∈ zq_W := List.mem_filter.mpr ⟨List.mem_append_right _ (List.mem_append_right _ (List.mem_append_left _ (List.mem_of_getElem? (i := 18) rfl))), rfl⟩
theorem zw_601 : (.methodLink "PlainSteps" 1 objectInit : Cond) ∈ zq_W := List.mem_filter.mpr ⟨List.mem_append_right _ (List.mem_append_left _ (List.mem_of_getElem? (i := 24) rfl)), rfl⟩
theorem zw_602 : (.classLink "PlainSteps" 7 "PlainSteps$Registers" : Cond) ∈ zq_W := List.mem_filter.mpr ⟨List.mem_append_right _ (List.mem_append_left _ (List.mem_of_getElem? (i := 27) rfl)), rfl⟩
theorem zw_603 : (.instantiable "PlainSteps$Registers" 4 : Cond) ∈ zq_W := List.mem_filter.mpr ⟨List.mem_append_right _ (List.mem_append_left _ (List.mem_of_getElem? (i := 28) rfl)), rfl⟩
theorem zw_604 : (.code zy_Registers_init zb_Registers_init 1 none : Cond) ∈ zq_W := List.mem_filter.mpr ⟨List.mem_append_right _ (List.mem_append_left _ (List.mem_of_getElem? (i := 31) rfl)), rfl⟩
theorem zw_605 : (.methodLink "PlainSteps" 9 zy_Registers_init : Cond) ∈ zq_W := List.mem_filter.mpr ⟨List.mem_append_right _ (List.mem_append_left _ (List.mem_of_getElem? (i := 29) rfl)), rfl⟩
theorem zw_606 : (.instanceMethod zy_Registers_init : Cond) ∈ zq_W := List.mem_filter.mpr ⟨List.mem_append_right _ (List.mem_append_left _ (List.mem_of_getElem? (i := 30) rfl)), rfl⟩
theorem zw_607 : (.fieldLink "PlainSteps" 10 "PlainSteps" "registers" "LPlainSteps$Registers;" : Cond) ∈ zq_W := List.mem_filter.mpr ⟨List.mem_append_right _ (List.mem_append_right _ (List.mem_append_left _ (List.mem_of_getElem? (i := 56) rfl))), rfl⟩
theorem zw_608 : (.classLink "PlainSteps" 16 "PlainSteps$Bytes" : Cond) ∈ zq_W := List.mem_filter.mpr ⟨List.mem_append_right _ (List.mem_append_left _ (List.mem_of_getElem? (i := 50) rfl)), rfl⟩
theorem zw_609 : (.instantiable "PlainSteps$Bytes" 1 : Cond) ∈ zq_W := List.mem_filter.mpr ⟨List.mem_append_right _ (List.mem_append_left _ (List.mem_of_getElem? (i := 51) rfl)), rfl⟩
theorem zw_610 : (.code zy_Bytes_init zb_Bytes_init 1 none : Cond) ∈ zq_W := List.mem_filter.mpr ⟨List.mem_append_right _ (List.mem_append_left _ (List.mem_of_getElem? (i := 54) rfl)), rfl⟩
theorem zw_611 : (.instanceMethod zy_Bytes_init : Cond) ∈ zq_W := List.mem_filter.mpr ⟨List.mem_append_right _ (List.mem_append_left _ (List.mem_of_getElem? (i := 53) rfl)), rfl⟩
theorem zw_612 : (.fieldLink "PlainSteps" 19 "PlainSteps" "bytes" "LPlainSteps$Bytes;" : Cond) ∈ zq_W := List.mem_filter.mpr ⟨List.mem_append_right _ (List.mem_append_right _ (List.mem_append_left _ (List.mem_of_getElem? (i := 57) rfl))), rfl⟩
theorem zw_613 : (.classLink "PlainSteps" 23 "PlainSteps$Operands" : Cond) ∈ zq_W := List.mem_filter.mpr ⟨List.mem_append_right _ (List.mem_append_left _ (List.mem_of_getElem? (i := 61) rfl)), rfl⟩
theorem zw_614 : (.instantiable "PlainSteps$Operands" 7 : Cond) ∈ zq_W := List.mem_filter.mpr ⟨List.mem_append_right _ (List.mem_append_left _ (List.mem_of_getElem? (i := 62) rfl)), rfl⟩
theorem zw_615 : (.code zy_Operands_init zb_Operands_init 2 none : Cond) ∈ zq_W := List.mem_filter.mpr ⟨List.mem_append_right _ (List.mem_append_left _ (List.mem_of_getElem? (i := 65) rfl)), rfl⟩
theorem zw_616 : (.methodLink "PlainSteps" 25 zy_Operands_init : Cond) ∈ zq_W := List.mem_filter.mpr ⟨List.mem_append_right _ (List.mem_append_left _ (List.mem_of_getElem? (i := 63) rfl)), rfl⟩
theorem zw_617 : (.instanceMethod zy_Operands_init : Cond) ∈ zq_W := List.mem_filter.mpr ⟨List.mem_append_right _ (List.mem_append_left _ (List.mem_of_getElem? (i := 64) rfl)), rfl⟩
theorem zw_618 : (.fieldLink "PlainSteps" 28 "PlainSteps" "operands" "LPlainSteps$Operands;" : Cond) ∈ zq_W := List.mem_filter.mpr ⟨List.mem_append_right _ (List.mem_append_right _ (List.mem_append_left _ (List.mem_of_getElem? (i := 58) rfl))), rfl⟩
theorem zw_619 : (.classLink "PlainSteps" 32 "PlainSteps$Program" : Cond) ∈ zq_W := List.mem_filter.mpr ⟨List.mem_append_right _ (List.mem_append_left _ (List.mem_of_getElem? (i := 92) rfl)), rfl⟩
theorem zw_620 : (.instantiable "PlainSteps$Program" 11 : Cond) ∈ zq_W := List.mem_filter.mpr ⟨List.mem_append_right _ (List.mem_append_left _ (List.mem_of_getElem? (i := 93) rfl)), rfl⟩
theorem zw_621 : (.code zy_Program_init zb_Program_init 1 none : Cond) ∈ zq_W := List.mem_filter.mpr ⟨List.mem_append_right _ (List.mem_append_left _ (List.mem_of_getElem? (i := 96) rfl)), rfl⟩
theorem zw_622 : (.instanceMethod zy_Program_init : Cond) ∈ zq_W := List.mem_filter.mpr ⟨List.mem_append_right _ (List.mem_append_left _ (List.mem_of_getElem? (i := 95) rfl)), rfl⟩
theorem zw_623 : (.fieldLink "PlainSteps" 35 "PlainSteps" "program" "LPlainSteps$Program;" : Cond) ∈ zq_W := List.mem_filter.mpr ⟨List.mem_append_right _ (List.mem_append_right _ (List.mem_append_left _ (List.mem_of_getElem? (i := 59) rfl))), rfl⟩
theorem zw_624 : (.classLink "PlainSteps" 39 "PlainSteps$Kept" : Cond) ∈ zq_W := List.mem_filter.mpr ⟨List.mem_append_right _ (List.mem_append_left _ (List.mem_of_getElem? (i := 140) rfl)), rfl⟩
theorem zw_625 : (.instantiable "PlainSteps$Kept" 4 : Cond) ∈ zq_W := List.mem_filter.mpr ⟨List.mem_append_right _ (List.mem_append_left _ (List.mem_of_getElem? (i := 141) rfl)), rfl⟩
theorem zw_626 : (.code zy_Kept_init zb_Kept_init 1 none : Cond) ∈ zq_W := List.mem_filter.mpr ⟨List.mem_append_right _ (List.mem_append_left _ (List.mem_of_getElem? (i := 144) rfl)), rfl⟩
theorem zw_627 : (.instanceMethod zy_Kept_init : Cond) ∈ zq_W := List.mem_filter.mpr ⟨List.mem_append_right _ (List.mem_append_left _ (List.mem_of_getElem? (i := 143) rfl)), rfl⟩
theorem zw_628 : (.fieldLink "PlainSteps" 42 "PlainSteps" "kept" "LPlainSteps$Kept;" : Cond) ∈ zq_W := List.mem_filter.mpr ⟨List.mem_append_right _ (List.mem_append_right _ (List.mem_append_left _ (List.mem_of_getElem? (i := 60) rfl))), rfl⟩
theorem zw_629 : (.classLink "PlainSteps" 46 "PlainSteps$Lines" : Cond) ∈ zq_W := List.mem_filter.mpr ⟨List.mem_append_right _ (List.mem_append_left _ (List.mem_of_getElem? (i := 164) rfl)), rfl⟩
theorem zw_630 : (.instantiable "PlainSteps$Lines" 2 : Cond) ∈ zq_W := List.mem_filter.mpr ⟨List.mem_append_right _ (List.mem_append_left _ (List.mem_of_getElem? (i := 165) rfl)), rfl⟩
theorem zw_631 : (.code zy_Lines_init zb_Lines_init 2 none : Cond) ∈ zq_W := List.mem_filter.mpr ⟨List.mem_append_right _ (List.mem_append_left _ (List.mem_of_getElem? (i := 168) rfl)), rfl⟩
theorem zw_632 : (.methodLink "PlainSteps" 48 zy_Lines_init : Cond) ∈ zq_W := List.mem_filter.mpr ⟨List.mem_append_right _ (List.mem_append_left _ (List.mem_of_getElem? (i := 166) rfl)), rfl⟩
theorem zw_633 : (.instanceMethod zy_Lines_init : Cond) ∈ zq_W := List.mem_filter.mpr ⟨List.mem_append_right _ (List.mem_append_left _ (List.mem_of_getElem? (i := 167) rfl)), rfl⟩
theorem zw_634 : (.fieldLink "PlainSteps" 49 "PlainSteps" "lines" "LPlainSteps$Lines;" : Cond) ∈ zq_W := List.mem_filter.mpr ⟨List.mem_append_right _ (List.mem_append_right _ (List.mem_append_left _ (List.mem_of_getElem? (i := 61) rfl))), rfl⟩
theorem zw_635 : (.fieldLink "PlainSteps" 53 "PlainSteps" "counts" "[I" : Cond) ∈ zq_W := List.mem_filter.mpr ⟨List.mem_append_right _ (List.mem_append_right _ (List.mem_append_left _ (List.mem_of_getElem? (i := 63) rfl))), rfl⟩
theorem zw_636 : (.classLink "PlainSteps" 57 "PlainSteps$Work" : Cond) ∈ zq_W := List.mem_filter.mpr ⟨List.mem_append_right _ (List.mem_append_left _ (List.mem_of_getElem? (i := 177) rfl)), rfl⟩
theorem zw_637 : (.instantiable "PlainSteps$Work" 14 : Cond) ∈ zq_W := List.mem_filter.mpr ⟨List.mem_append_right _ (List.mem_append_left _ (List.mem_of_getElem? (i := 178) rfl)), rfl⟩
theorem zw_638 : (.code zy_Work_init zb_Work_init 7 none : Cond) ∈ zq_W := List.mem_filter.mpr ⟨List.mem_append_right _ (List.mem_append_left _ (List.mem_of_getElem? (i := 181) rfl)), rfl⟩
theorem zw_639 : (.methodLink "PlainSteps" 59 zy_Work_init : Cond) ∈ zq_W := List.mem_filter.mpr ⟨List.mem_append_right _ (List.mem_append_left _ (List.mem_of_getElem? (i := 179) rfl)), rfl⟩
theorem zw_640 : (.instanceMethod zy_Work_init : Cond) ∈ zq_W := List.mem_filter.mpr ⟨List.mem_append_right _ (List.mem_append_left _ (List.mem_of_getElem? (i := 180) rfl)), rfl⟩
theorem zw_641 : (.classLink "PlainSteps" 62 "PlainSteps$Machine" : Cond) ∈ zq_W := List.mem_filter.mpr ⟨List.mem_append_right _ (List.mem_append_right _ (List.mem_append_left _ (List.mem_of_getElem? (i := 13) rfl))), rfl⟩
theorem zw_642 : (.instantiable "PlainSteps$Machine" 11 : Cond) ∈ zq_W := List.mem_filter.mpr ⟨List.mem_append_right _ (List.mem_append_right _ (List.mem_append_left _ (List.mem_of_getElem? (i := 14) rfl))), rfl⟩
theorem zw_643 : (.code zy_Machine_init zb_Machine_init 8 none : Cond) ∈ zq_W := List.mem_filter.mpr ⟨List.mem_append_right _ (List.mem_append_right _ (List.mem_append_left _ (List.mem_of_getElem? (i := 17) rfl))), rfl⟩
theorem zw_644 : (.methodLink "PlainSteps" 64 zy_Machine_init : Cond) ∈ zq_W := List.mem_filter.mpr ⟨List.mem_append_right _ (List.mem_append_right _ (List.mem_append_left _ (List.mem_of_getElem? (i := 15) rfl))), rfl⟩
theorem zw_645 : (.instanceMethod zy_Machine_init : Cond) ∈ zq_W := List.mem_filter.mpr ⟨List.mem_append_right _ (List.mem_append_right _ (List.mem_append_left _ (List.mem_of_getElem? (i := 16) rfl))), rfl⟩
theorem zw_646 : (.fieldLink "PlainSteps" 67 "PlainSteps" "machine" "LPlainSteps$Machine;" : Cond) ∈ zq_W := List.mem_filter.mpr ⟨List.mem_append_right _ (List.mem_append_right _ (List.mem_append_left _ (List.mem_of_getElem? (i := 62) rfl))), rfl⟩
theorem zw_647 : (.methodLink "PlainStepsModel" 1 objectInit : Cond) ∈ zq_W := List.mem_filter.mpr ⟨List.mem_append_right _ (List.mem_append_right _ (List.mem_append_right _ (List.mem_append_right _ (List.mem_append_left _ (List.mem_of_getElem? (i := 100) rfl))))), rfl⟩
theorem zi_Registers : ∀ w ∈ u_ws zR_Registers zF_Registers 4, w ∈ zq_W := by
  show ∀ w ∈ ([u_lay zR_Registers zF_Registers 0, u_lay zR_Registers zF_Registers 1, u_lay zR_Registers zF_Registers 2, u_lay zR_Registers zF_Registers 3] : List Cond), w ∈ zq_W
  exact List.forall_mem_cons.mpr ⟨zw_0, List.forall_mem_cons.mpr ⟨zw_1, List.forall_mem_cons.mpr ⟨zw_2, List.forall_mem_cons.mpr ⟨zw_3, fun _ h => absurd h List.not_mem_nil⟩⟩⟩⟩
theorem zi_Bytes : ∀ w ∈ u_ws zR_Bytes zF_Bytes 1, w ∈ zq_W := by
  show ∀ w ∈ ([u_lay zR_Bytes zF_Bytes 0] : List Cond), w ∈ zq_W
  exact List.forall_mem_cons.mpr ⟨zw_4, fun _ h => absurd h List.not_mem_nil⟩
theorem zi_Operands : ∀ w ∈ u_ws zR_Operands zF_Operands 7, w ∈ zq_W := by
  show ∀ w ∈ ([u_lay zR_Operands zF_Operands 0, u_lay zR_Operands zF_Operands 1, u_lay zR_Operands zF_Operands 2, u_lay zR_Operands zF_Operands 3, u_lay zR_Operands zF_Operands 4, u_lay zR_Operands zF_Operands 5, u_lay zR_Operands zF_Operands 6] : List Cond), w ∈ zq_W
  exact List.forall_mem_cons.mpr ⟨zw_5, List.forall_mem_cons.mpr ⟨zw_6, List.forall_mem_cons.mpr ⟨zw_7, List.forall_mem_cons.mpr ⟨zw_8, List.forall_mem_cons.mpr ⟨zw_9, List.forall_mem_cons.mpr ⟨zw_10, List.forall_mem_cons.mpr ⟨zw_11, fun _ h => absurd h List.not_mem_nil⟩⟩⟩⟩⟩⟩⟩
theorem zi_Program : ∀ w ∈ u_ws zR_Program zF_Program 11, w ∈ zq_W := by
  show ∀ w ∈ ([u_lay zR_Program zF_Program 0, u_lay zR_Program zF_Program 1, u_lay zR_Program zF_Program 2, u_lay zR_Program zF_Program 3, u_lay zR_Program zF_Program 4, u_lay zR_Program zF_Program 5, u_lay zR_Program zF_Program 6, u_lay zR_Program zF_Program 7, u_lay zR_Program zF_Program 8, u_lay zR_Program zF_Program 9, u_lay zR_Program zF_Program 10] : List Cond), w ∈ zq_W
  exact List.forall_mem_cons.mpr ⟨zw_12, List.forall_mem_cons.mpr ⟨zw_13, List.forall_mem_cons.mpr ⟨zw_14, List.forall_mem_cons.mpr ⟨zw_15, List.forall_mem_cons.mpr ⟨zw_16, List.forall_mem_cons.mpr ⟨zw_17, List.forall_mem_cons.mpr ⟨zw_18, List.forall_mem_cons.mpr ⟨zw_19, List.forall_mem_cons.mpr ⟨zw_20, List.forall_mem_cons.mpr ⟨zw_21, List.forall_mem_cons.mpr ⟨zw_22, fun _ h => absurd h List.not_mem_nil⟩⟩⟩⟩⟩⟩⟩⟩⟩⟩⟩
theorem zi_Kept : ∀ w ∈ u_ws zR_Kept zF_Kept 4, w ∈ zq_W := by
  show ∀ w ∈ ([u_lay zR_Kept zF_Kept 0, u_lay zR_Kept zF_Kept 1, u_lay zR_Kept zF_Kept 2, u_lay zR_Kept zF_Kept 3] : List Cond), w ∈ zq_W
  exact List.forall_mem_cons.mpr ⟨zw_23, List.forall_mem_cons.mpr ⟨zw_24, List.forall_mem_cons.mpr ⟨zw_25, List.forall_mem_cons.mpr ⟨zw_26, fun _ h => absurd h List.not_mem_nil⟩⟩⟩⟩
theorem zi_Lines : ∀ w ∈ u_ws zR_Lines zF_Lines 2, w ∈ zq_W := by
  show ∀ w ∈ ([u_lay zR_Lines zF_Lines 0, u_lay zR_Lines zF_Lines 1] : List Cond), w ∈ zq_W
  exact List.forall_mem_cons.mpr ⟨zw_27, List.forall_mem_cons.mpr ⟨zw_28, fun _ h => absurd h List.not_mem_nil⟩⟩
theorem zi_Writes : ∀ w ∈ u_ws zR_Writes zF_Writes 6, w ∈ zq_W := by
  show ∀ w ∈ ([u_lay zR_Writes zF_Writes 0, u_lay zR_Writes zF_Writes 1, u_lay zR_Writes zF_Writes 2, u_lay zR_Writes zF_Writes 3, u_lay zR_Writes zF_Writes 4, u_lay zR_Writes zF_Writes 5] : List Cond), w ∈ zq_W
  exact List.forall_mem_cons.mpr ⟨zw_29, List.forall_mem_cons.mpr ⟨zw_30, List.forall_mem_cons.mpr ⟨zw_31, List.forall_mem_cons.mpr ⟨zw_32, List.forall_mem_cons.mpr ⟨zw_33, List.forall_mem_cons.mpr ⟨zw_34, fun _ h => absurd h List.not_mem_nil⟩⟩⟩⟩⟩⟩
theorem zi_Work : ∀ w ∈ u_ws zR_Work zF_Work 14, w ∈ zq_W := by
  show ∀ w ∈ ([u_lay zR_Work zF_Work 0, u_lay zR_Work zF_Work 1, u_lay zR_Work zF_Work 2, u_lay zR_Work zF_Work 3, u_lay zR_Work zF_Work 4, u_lay zR_Work zF_Work 5, u_lay zR_Work zF_Work 6, u_lay zR_Work zF_Work 7, u_lay zR_Work zF_Work 8, u_lay zR_Work zF_Work 9, u_lay zR_Work zF_Work 10, u_lay zR_Work zF_Work 11, u_lay zR_Work zF_Work 12, u_lay zR_Work zF_Work 13] : List Cond), w ∈ zq_W
  exact List.forall_mem_cons.mpr ⟨zw_35, List.forall_mem_cons.mpr ⟨zw_36, List.forall_mem_cons.mpr ⟨zw_37, List.forall_mem_cons.mpr ⟨zw_38, List.forall_mem_cons.mpr ⟨zw_39, List.forall_mem_cons.mpr ⟨zw_40, List.forall_mem_cons.mpr ⟨zw_41, List.forall_mem_cons.mpr ⟨zw_42, List.forall_mem_cons.mpr ⟨zw_43, List.forall_mem_cons.mpr ⟨zw_44, List.forall_mem_cons.mpr ⟨zw_45, List.forall_mem_cons.mpr ⟨zw_46, List.forall_mem_cons.mpr ⟨zw_47, List.forall_mem_cons.mpr ⟨zw_48, fun _ h => absurd h List.not_mem_nil⟩⟩⟩⟩⟩⟩⟩⟩⟩⟩⟩⟩⟩⟩
theorem zi_Machine : ∀ w ∈ u_ws zR_Machine zF_Machine 11, w ∈ zq_W := by
  show ∀ w ∈ ([u_lay zR_Machine zF_Machine 0, u_lay zR_Machine zF_Machine 1, u_lay zR_Machine zF_Machine 2, u_lay zR_Machine zF_Machine 3, u_lay zR_Machine zF_Machine 4, u_lay zR_Machine zF_Machine 5, u_lay zR_Machine zF_Machine 6, u_lay zR_Machine zF_Machine 7, u_lay zR_Machine zF_Machine 8, u_lay zR_Machine zF_Machine 9, u_lay zR_Machine zF_Machine 10] : List Cond), w ∈ zq_W
  exact List.forall_mem_cons.mpr ⟨zw_49, List.forall_mem_cons.mpr ⟨zw_50, List.forall_mem_cons.mpr ⟨zw_51, List.forall_mem_cons.mpr ⟨zw_52, List.forall_mem_cons.mpr ⟨zw_53, List.forall_mem_cons.mpr ⟨zw_54, List.forall_mem_cons.mpr ⟨zw_55, List.forall_mem_cons.mpr ⟨zw_56, List.forall_mem_cons.mpr ⟨zw_57, List.forall_mem_cons.mpr ⟨zw_58, List.forall_mem_cons.mpr ⟨zw_59, fun _ h => absurd h List.not_mem_nil⟩⟩⟩⟩⟩⟩⟩⟩⟩⟩⟩
theorem zi_PS : ∀ w ∈ u_ws zR_PS zF_PS 8, w ∈ zq_W := by
  show ∀ w ∈ ([u_lay zR_PS zF_PS 0, u_lay zR_PS zF_PS 1, u_lay zR_PS zF_PS 2, u_lay zR_PS zF_PS 3, u_lay zR_PS zF_PS 4, u_lay zR_PS zF_PS 5, u_lay zR_PS zF_PS 6, u_lay zR_PS zF_PS 7] : List Cond), w ∈ zq_W
  exact List.forall_mem_cons.mpr ⟨zw_60, List.forall_mem_cons.mpr ⟨zw_61, List.forall_mem_cons.mpr ⟨zw_62, List.forall_mem_cons.mpr ⟨zw_63, List.forall_mem_cons.mpr ⟨zw_64, List.forall_mem_cons.mpr ⟨zw_65, List.forall_mem_cons.mpr ⟨zw_66, List.forall_mem_cons.mpr ⟨zw_67, fun _ h => absurd h List.not_mem_nil⟩⟩⟩⟩⟩⟩⟩⟩
theorem zi_M : ∀ w ∈ u_ws zR_M zF_M 52, w ∈ zq_W := by
  show ∀ w ∈ ([u_lay zR_M zF_M 0, u_lay zR_M zF_M 1, u_lay zR_M zF_M 2, u_lay zR_M zF_M 3, u_lay zR_M zF_M 4, u_lay zR_M zF_M 5, u_lay zR_M zF_M 6, u_lay zR_M zF_M 7, u_lay zR_M zF_M 8, u_lay zR_M zF_M 9, u_lay zR_M zF_M 10, u_lay zR_M zF_M 11, u_lay zR_M zF_M 12, u_lay zR_M zF_M 13, u_lay zR_M zF_M 14, u_lay zR_M zF_M 15, u_lay zR_M zF_M 16, u_lay zR_M zF_M 17, u_lay zR_M zF_M 18, u_lay zR_M zF_M 19, u_lay zR_M zF_M 20, u_lay zR_M zF_M 21, u_lay zR_M zF_M 22, u_lay zR_M zF_M 23, u_lay zR_M zF_M 24, u_lay zR_M zF_M 25, u_lay zR_M zF_M 26, u_lay zR_M zF_M 27, u_lay zR_M zF_M 28, u_lay zR_M zF_M 29, u_lay zR_M zF_M 30, u_lay zR_M zF_M 31, u_lay zR_M zF_M 32, u_lay zR_M zF_M 33, u_lay zR_M zF_M 34, u_lay zR_M zF_M 35, u_lay zR_M zF_M 36, u_lay zR_M zF_M 37, u_lay zR_M zF_M 38, u_lay zR_M zF_M 39, u_lay zR_M zF_M 40, u_lay zR_M zF_M 41, u_lay zR_M zF_M 42, u_lay zR_M zF_M 43, u_lay zR_M zF_M 44, u_lay zR_M zF_M 45, u_lay zR_M zF_M 46, u_lay zR_M zF_M 47, u_lay zR_M zF_M 48, u_lay zR_M zF_M 49, u_lay zR_M zF_M 50, u_lay zR_M zF_M 51] : List Cond), w ∈ zq_W
  exact List.forall_mem_cons.mpr ⟨zw_68, List.forall_mem_cons.mpr ⟨zw_69, List.forall_mem_cons.mpr ⟨zw_70, List.forall_mem_cons.mpr ⟨zw_71, List.forall_mem_cons.mpr ⟨zw_72, List.forall_mem_cons.mpr ⟨zw_73, List.forall_mem_cons.mpr ⟨zw_74, List.forall_mem_cons.mpr ⟨zw_75, List.forall_mem_cons.mpr ⟨zw_76, List.forall_mem_cons.mpr ⟨zw_77, List.forall_mem_cons.mpr ⟨zw_78, List.forall_mem_cons.mpr ⟨zw_79, List.forall_mem_cons.mpr ⟨zw_80, List.forall_mem_cons.mpr ⟨zw_81, List.forall_mem_cons.mpr ⟨zw_82, List.forall_mem_cons.mpr ⟨zw_83, List.forall_mem_cons.mpr ⟨zw_84, List.forall_mem_cons.mpr ⟨zw_85, List.forall_mem_cons.mpr ⟨zw_86, List.forall_mem_cons.mpr ⟨zw_87, List.forall_mem_cons.mpr ⟨zw_88, List.forall_mem_cons.mpr ⟨zw_89, List.forall_mem_cons.mpr ⟨zw_90, List.forall_mem_cons.mpr ⟨zw_91, List.forall_mem_cons.mpr ⟨zw_92, List.forall_mem_cons.mpr ⟨zw_93, List.forall_mem_cons.mpr ⟨zw_94, List.forall_mem_cons.mpr ⟨zw_95, List.forall_mem_cons.mpr ⟨zw_96, List.forall_mem_cons.mpr ⟨zw_97, List.forall_mem_cons.mpr ⟨zw_98, List.forall_mem_cons.mpr ⟨zw_99, List.forall_mem_cons.mpr ⟨zw_100, List.forall_mem_cons.mpr ⟨zw_101, List.forall_mem_cons.mpr ⟨zw_102, List.forall_mem_cons.mpr ⟨zw_103, List.forall_mem_cons.mpr ⟨zw_104, List.forall_mem_cons.mpr ⟨zw_105, List.forall_mem_cons.mpr ⟨zw_106, List.forall_mem_cons.mpr ⟨zw_107, List.forall_mem_cons.mpr ⟨zw_108, List.forall_mem_cons.mpr ⟨zw_109, List.forall_mem_cons.mpr ⟨zw_110, List.forall_mem_cons.mpr ⟨zw_111, List.forall_mem_cons.mpr ⟨zw_112, List.forall_mem_cons.mpr ⟨zw_113, List.forall_mem_cons.mpr ⟨zw_114, List.forall_mem_cons.mpr ⟨zw_115, List.forall_mem_cons.mpr ⟨zw_116, List.forall_mem_cons.mpr ⟨zw_117, List.forall_mem_cons.mpr ⟨zw_118, List.forall_mem_cons.mpr ⟨zw_119, fun _ h => absurd h List.not_mem_nil⟩⟩⟩⟩⟩⟩⟩⟩⟩⟩⟩⟩⟩⟩⟩⟩⟩⟩⟩⟩⟩⟩⟩⟩⟩⟩⟩⟩⟩⟩⟩⟩⟩⟩⟩⟩⟩⟩⟩⟩⟩⟩⟩⟩⟩⟩⟩⟩⟩⟩⟩⟩
def zq_nws : List Cond := [(Jvm.Cond.fieldLinkNest "PlainSteps" (78 : Nat) "PlainSteps$Registers" "count" "I" "PlainSteps"), (Jvm.Cond.methodLinkNest "PlainSteps" (18 : Nat) ({ cls := "PlainSteps$Bytes", name := "<init>", desc := "()V" } : Jvm.MethodName) "PlainSteps"), (Jvm.Cond.fieldLinkNest "PlainSteps" (91 : Nat) "PlainSteps$Operands" "constantCount" "I" "PlainSteps"), (Jvm.Cond.fieldLinkNest "PlainSteps" (102 : Nat) "PlainSteps$Operands" "fieldCount" "I" "PlainSteps"), (Jvm.Cond.methodLinkNest "PlainSteps" (34 : Nat) ({ cls := "PlainSteps$Program", name := "<init>", desc := "()V" } : Jvm.MethodName) "PlainSteps"), (Jvm.Cond.fieldLinkNest "PlainSteps$Work" (119 : Nat) "PlainSteps$Program" "ops" "[I" "PlainSteps"), (Jvm.Cond.fieldLinkNest "PlainSteps$Work" (125 : Nat) "PlainSteps$Program" "firsts" "[I" "PlainSteps"), (Jvm.Cond.fieldLinkNest "PlainSteps$Work" (134 : Nat) "PlainSteps$Program" "seconds" "[I" "PlainSteps"), (Jvm.Cond.fieldLinkNest "PlainSteps$Work" (122 : Nat) "PlainSteps$Program" "targets" "[I" "PlainSteps"), (Jvm.Cond.fieldLinkNest "PlainSteps" (122 : Nat) "PlainSteps$Program" "transferCount" "I" "PlainSteps"), (Jvm.Cond.fieldLinkNest "PlainSteps$Work" (57 : Nat) "PlainSteps$Program" "starts" "[I" "PlainSteps"), (Jvm.Cond.fieldLinkNest "PlainSteps$Work" (62 : Nat) "PlainSteps$Program" "ends" "[I" "PlainSteps"), (Jvm.Cond.fieldLinkNest "PlainSteps" (138 : Nat) "PlainSteps$Program" "instructionCount" "I" "PlainSteps"), (Jvm.Cond.methodLinkNest "PlainSteps" (41 : Nat) ({ cls := "PlainSteps$Kept", name := "<init>", desc := "()V" } : Jvm.MethodName) "PlainSteps"), (Jvm.Cond.fieldLinkNest "PlainSteps$Work" (48 : Nat) "PlainSteps$Kept" "count" "I" "PlainSteps"), (Jvm.Cond.fieldLinkNest "PlainSteps" (218 : Nat) "PlainSteps$Kept" "count" "I" "PlainSteps"), (Jvm.Cond.fieldLinkNest "PlainSteps$Work" (54 : Nat) "PlainSteps$Kept" "level" "I" "PlainSteps"), (Jvm.Cond.fieldLinkNest "PlainSteps$Machine" (46 : Nat) "PlainSteps$Kept" "level" "I" "PlainSteps"), (Jvm.Cond.fieldLinkNest "PlainSteps" (215 : Nat) "PlainSteps$Kept" "level" "I" "PlainSteps"), (Jvm.Cond.fieldLinkNest "PlainSteps$Machine" (123 : Nat) "PlainSteps$Work" "wrotePlace" "Z" "PlainSteps"), (Jvm.Cond.fieldLinkNest "PlainSteps$Machine" (94 : Nat) "PlainSteps$Work" "halts" "Z" "PlainSteps"), (Jvm.Cond.fieldLinkNest "PlainSteps" (167 : Nat) "PlainSteps$Machine" "halt" "I" "PlainSteps"), (Jvm.Cond.fieldLinkNest "PlainSteps" (207 : Nat) "PlainSteps$Machine" "faultKind" "I" "PlainSteps"), (Jvm.Cond.fieldLinkNest "PlainSteps" (210 : Nat) "PlainSteps$Machine" "faultPlace" "I" "PlainSteps")]
theorem zx_0 : (.fieldLinkNest "PlainSteps" 78 "PlainSteps$Registers" "count" "I" "PlainSteps" : Cond) ∈ zq_nws := List.mem_of_getElem? (i := 0) rfl
theorem zx_1 : (.methodLinkNest "PlainSteps" 18 zy_Bytes_init "PlainSteps" : Cond) ∈ zq_nws := List.mem_of_getElem? (i := 1) rfl
theorem zx_2 : (.fieldLinkNest "PlainSteps" 91 "PlainSteps$Operands" "constantCount" "I" "PlainSteps" : Cond) ∈ zq_nws := List.mem_of_getElem? (i := 2) rfl
theorem zx_3 : (.fieldLinkNest "PlainSteps" 102 "PlainSteps$Operands" "fieldCount" "I" "PlainSteps" : Cond) ∈ zq_nws := List.mem_of_getElem? (i := 3) rfl
theorem zx_4 : (.methodLinkNest "PlainSteps" 34 zy_Program_init "PlainSteps" : Cond) ∈ zq_nws := List.mem_of_getElem? (i := 4) rfl
theorem zx_5 : (.fieldLinkNest "PlainSteps$Work" 119 "PlainSteps$Program" "ops" "[I" "PlainSteps" : Cond) ∈ zq_nws := List.mem_of_getElem? (i := 5) rfl
theorem zx_6 : (.fieldLinkNest "PlainSteps$Work" 125 "PlainSteps$Program" "firsts" "[I" "PlainSteps" : Cond) ∈ zq_nws := List.mem_of_getElem? (i := 6) rfl
theorem zx_7 : (.fieldLinkNest "PlainSteps$Work" 134 "PlainSteps$Program" "seconds" "[I" "PlainSteps" : Cond) ∈ zq_nws := List.mem_of_getElem? (i := 7) rfl
theorem zx_8 : (.fieldLinkNest "PlainSteps$Work" 122 "PlainSteps$Program" "targets" "[I" "PlainSteps" : Cond) ∈ zq_nws := List.mem_of_getElem? (i := 8) rfl
theorem zx_9 : (.fieldLinkNest "PlainSteps" 122 "PlainSteps$Program" "transferCount" "I" "PlainSteps" : Cond) ∈ zq_nws := List.mem_of_getElem? (i := 9) rfl
theorem zx_10 : (.fieldLinkNest "PlainSteps$Work" 57 "PlainSteps$Program" "starts" "[I" "PlainSteps" : Cond) ∈ zq_nws := List.mem_of_getElem? (i := 10) rfl
theorem zx_11 : (.fieldLinkNest "PlainSteps$Work" 62 "PlainSteps$Program" "ends" "[I" "PlainSteps" : Cond) ∈ zq_nws := List.mem_of_getElem? (i := 11) rfl
theorem zx_12 : (.fieldLinkNest "PlainSteps" 138 "PlainSteps$Program" "instructionCount" "I" "PlainSteps" : Cond) ∈ zq_nws := List.mem_of_getElem? (i := 12) rfl
theorem zx_13 : (.methodLinkNest "PlainSteps" 41 zy_Kept_init "PlainSteps" : Cond) ∈ zq_nws := List.mem_of_getElem? (i := 13) rfl
theorem zx_14 : (.fieldLinkNest "PlainSteps$Work" 48 "PlainSteps$Kept" "count" "I" "PlainSteps" : Cond) ∈ zq_nws := List.mem_of_getElem? (i := 14) rfl
theorem zx_15 : (.fieldLinkNest "PlainSteps" 218 "PlainSteps$Kept" "count" "I" "PlainSteps" : Cond) ∈ zq_nws := List.mem_of_getElem? (i := 15) rfl
theorem zx_16 : (.fieldLinkNest "PlainSteps$Work" 54 "PlainSteps$Kept" "level" "I" "PlainSteps" : Cond) ∈ zq_nws := List.mem_of_getElem? (i := 16) rfl
theorem zx_17 : (.fieldLinkNest "PlainSteps$Machine" 46 "PlainSteps$Kept" "level" "I" "PlainSteps" : Cond) ∈ zq_nws := List.mem_of_getElem? (i := 17) rfl
theorem zx_18 : (.fieldLinkNest "PlainSteps" 215 "PlainSteps$Kept" "level" "I" "PlainSteps" : Cond) ∈ zq_nws := List.mem_of_getElem? (i := 18) rfl
theorem zx_19 : (.fieldLinkNest "PlainSteps$Machine" 123 "PlainSteps$Work" "wrotePlace" "Z" "PlainSteps" : Cond) ∈ zq_nws := List.mem_of_getElem? (i := 19) rfl
theorem zx_20 : (.fieldLinkNest "PlainSteps$Machine" 94 "PlainSteps$Work" "halts" "Z" "PlainSteps" : Cond) ∈ zq_nws := List.mem_of_getElem? (i := 20) rfl
theorem zx_21 : (.fieldLinkNest "PlainSteps" 167 "PlainSteps$Machine" "halt" "I" "PlainSteps" : Cond) ∈ zq_nws := List.mem_of_getElem? (i := 21) rfl
theorem zx_22 : (.fieldLinkNest "PlainSteps" 207 "PlainSteps$Machine" "faultKind" "I" "PlainSteps" : Cond) ∈ zq_nws := List.mem_of_getElem? (i := 22) rfl
theorem zx_23 : (.fieldLinkNest "PlainSteps" 210 "PlainSteps$Machine" "faultPlace" "I" "PlainSteps" : Cond) ∈ zq_nws := List.mem_of_getElem? (i := 23) rfl
def zq_strs : List (String × Nat × String) := [("PlainSteps", 73, "a register has 1 to 64 bits"), ("PlainSteps", 84, "there are 24 registers"), ("PlainSteps", 94, "there are 16 constants"), ("PlainSteps", 100, "a field has bits of 0 to 15"), ("PlainSteps", 105, "there are 16 fields"), ("PlainSteps", 111, "no such op"), ("PlainSteps", 117, "no such operand"), ("PlainSteps", 120, "no such register"), ("PlainSteps", 125, "there are 200 transfers"), ("PlainSteps", 132, "mask and value have 16 bits"), ("PlainSteps", 134, "the value has bits that the mask has not"), ("PlainSteps", 136, "no such way"), ("PlainSteps", 141, "there are 40 instructions"), ("PlainSteps", 153, "no such byte"), ("PlainSteps", 156, "a byte is 0 to 255"), ("PlainSteps", 165, "1 to 5000 steps"), ("PlainSteps", 172, "the machine has halted"), ("PlainSteps", 193, "no such line"), ("PlainSteps", 199, "a rank is 0 to 14"), ("PlainSteps", 205, "0 for the kind, 1 for the place"), ("PlainSteps", 213, "no such counter")]
theorem zh_Registers_init : zy_Registers_init.cls ≠ "java/lang/invoke/MethodHandle" ∧ zy_Registers_init.cls ≠ "java/lang/invoke/VarHandle" ∧ (parseMethodDescriptor zy_Registers_init.desc).map (fun d => d.parameters.length) = some 0 := by decide +kernel
theorem zh_Registers_add : zy_Registers_add.cls = "PlainSteps$Registers" ∧ zy_Registers_add.cls ≠ "java/lang/invoke/MethodHandle" ∧ zy_Registers_add.cls ≠ "java/lang/invoke/VarHandle" ∧ (parseMethodDescriptor zy_Registers_add.desc).map (fun d => d.parameters.length) = some 1 := by decide +kernel
theorem zh_Registers_has : zy_Registers_has.cls = "PlainSteps$Registers" ∧ zy_Registers_has.cls ≠ "java/lang/invoke/MethodHandle" ∧ zy_Registers_has.cls ≠ "java/lang/invoke/VarHandle" ∧ (parseMethodDescriptor zy_Registers_has.desc).map (fun d => d.parameters.length) = some 1 := by decide +kernel
theorem zh_Registers_valueOf : zy_Registers_valueOf.cls = "PlainSteps$Registers" ∧ zy_Registers_valueOf.cls ≠ "java/lang/invoke/MethodHandle" ∧ zy_Registers_valueOf.cls ≠ "java/lang/invoke/VarHandle" ∧ (parseMethodDescriptor zy_Registers_valueOf.desc).map (fun d => d.parameters.length) = some 1 := by decide +kernel
theorem zh_Registers_isMarked : zy_Registers_isMarked.cls = "PlainSteps$Registers" ∧ zy_Registers_isMarked.cls ≠ "java/lang/invoke/MethodHandle" ∧ zy_Registers_isMarked.cls ≠ "java/lang/invoke/VarHandle" ∧ (parseMethodDescriptor zy_Registers_isMarked.desc).map (fun d => d.parameters.length) = some 1 := by decide +kernel
theorem zh_Registers_put : zy_Registers_put.cls = "PlainSteps$Registers" ∧ zy_Registers_put.cls ≠ "java/lang/invoke/MethodHandle" ∧ zy_Registers_put.cls ≠ "java/lang/invoke/VarHandle" ∧ (parseMethodDescriptor zy_Registers_put.desc).map (fun d => d.parameters.length) = some 3 := by decide +kernel
theorem zh_Registers_placeNow : zy_Registers_placeNow.cls = "PlainSteps$Registers" ∧ zy_Registers_placeNow.cls ≠ "java/lang/invoke/MethodHandle" ∧ zy_Registers_placeNow.cls ≠ "java/lang/invoke/VarHandle" ∧ (parseMethodDescriptor zy_Registers_placeNow.desc).map (fun d => d.parameters.length) = some 0 := by decide +kernel
theorem zh_Registers_movePlace : zy_Registers_movePlace.cls = "PlainSteps$Registers" ∧ zy_Registers_movePlace.cls ≠ "java/lang/invoke/MethodHandle" ∧ zy_Registers_movePlace.cls ≠ "java/lang/invoke/VarHandle" ∧ (parseMethodDescriptor zy_Registers_movePlace.desc).map (fun d => d.parameters.length) = some 1 := by decide +kernel
theorem zh_Bytes_init : zy_Bytes_init.cls ≠ "java/lang/invoke/MethodHandle" ∧ zy_Bytes_init.cls ≠ "java/lang/invoke/VarHandle" ∧ (parseMethodDescriptor zy_Bytes_init.desc).map (fun d => d.parameters.length) = some 0 := by decide +kernel
theorem zh_Bytes_hasByte : zy_Bytes_hasByte.cls = "PlainSteps$Bytes" ∧ zy_Bytes_hasByte.cls ≠ "java/lang/invoke/MethodHandle" ∧ zy_Bytes_hasByte.cls ≠ "java/lang/invoke/VarHandle" ∧ (parseMethodDescriptor zy_Bytes_hasByte.desc).map (fun d => d.parameters.length) = some 1 := by decide +kernel
theorem zh_Bytes_hasWord : zy_Bytes_hasWord.cls = "PlainSteps$Bytes" ∧ zy_Bytes_hasWord.cls ≠ "java/lang/invoke/MethodHandle" ∧ zy_Bytes_hasWord.cls ≠ "java/lang/invoke/VarHandle" ∧ (parseMethodDescriptor zy_Bytes_hasWord.desc).map (fun d => d.parameters.length) = some 1 := by decide +kernel
theorem zh_Bytes_byteOf : zy_Bytes_byteOf.cls = "PlainSteps$Bytes" ∧ zy_Bytes_byteOf.cls ≠ "java/lang/invoke/MethodHandle" ∧ zy_Bytes_byteOf.cls ≠ "java/lang/invoke/VarHandle" ∧ (parseMethodDescriptor zy_Bytes_byteOf.desc).map (fun d => d.parameters.length) = some 1 := by decide +kernel
theorem zh_Bytes_wordOf : zy_Bytes_wordOf.cls = "PlainSteps$Bytes" ∧ zy_Bytes_wordOf.cls ≠ "java/lang/invoke/MethodHandle" ∧ zy_Bytes_wordOf.cls ≠ "java/lang/invoke/VarHandle" ∧ (parseMethodDescriptor zy_Bytes_wordOf.desc).map (fun d => d.parameters.length) = some 1 := by decide +kernel
theorem zh_Bytes_putByte : zy_Bytes_putByte.cls = "PlainSteps$Bytes" ∧ zy_Bytes_putByte.cls ≠ "java/lang/invoke/MethodHandle" ∧ zy_Bytes_putByte.cls ≠ "java/lang/invoke/VarHandle" ∧ (parseMethodDescriptor zy_Bytes_putByte.desc).map (fun d => d.parameters.length) = some 2 := by decide +kernel
theorem zh_Bytes_putWord : zy_Bytes_putWord.cls = "PlainSteps$Bytes" ∧ zy_Bytes_putWord.cls ≠ "java/lang/invoke/MethodHandle" ∧ zy_Bytes_putWord.cls ≠ "java/lang/invoke/VarHandle" ∧ (parseMethodDescriptor zy_Bytes_putWord.desc).map (fun d => d.parameters.length) = some 2 := by decide +kernel
theorem zh_Operands_init : zy_Operands_init.cls ≠ "java/lang/invoke/MethodHandle" ∧ zy_Operands_init.cls ≠ "java/lang/invoke/VarHandle" ∧ (parseMethodDescriptor zy_Operands_init.desc).map (fun d => d.parameters.length) = some 1 := by decide +kernel
theorem zh_Operands_addConstant : zy_Operands_addConstant.cls = "PlainSteps$Operands" ∧ zy_Operands_addConstant.cls ≠ "java/lang/invoke/MethodHandle" ∧ zy_Operands_addConstant.cls ≠ "java/lang/invoke/VarHandle" ∧ (parseMethodDescriptor zy_Operands_addConstant.desc).map (fun d => d.parameters.length) = some 1 := by decide +kernel
theorem zh_Operands_addField : zy_Operands_addField.cls = "PlainSteps$Operands" ∧ zy_Operands_addField.cls ≠ "java/lang/invoke/MethodHandle" ∧ zy_Operands_addField.cls ≠ "java/lang/invoke/VarHandle" ∧ (parseMethodDescriptor zy_Operands_addField.desc).map (fun d => d.parameters.length) = some 3 := by decide +kernel
theorem zh_Operands_has : zy_Operands_has.cls = "PlainSteps$Operands" ∧ zy_Operands_has.cls ≠ "java/lang/invoke/MethodHandle" ∧ zy_Operands_has.cls ≠ "java/lang/invoke/VarHandle" ∧ (parseMethodDescriptor zy_Operands_has.desc).map (fun d => d.parameters.length) = some 1 := by decide +kernel
theorem zh_Operands_read : zy_Operands_read.cls = "PlainSteps$Operands" ∧ zy_Operands_read.cls ≠ "java/lang/invoke/MethodHandle" ∧ zy_Operands_read.cls ≠ "java/lang/invoke/VarHandle" ∧ (parseMethodDescriptor zy_Operands_read.desc).map (fun d => d.parameters.length) = some 2 := by decide +kernel
theorem zh_Operands_readField : zy_Operands_readField.cls = "PlainSteps$Operands" ∧ zy_Operands_readField.cls ≠ "java/lang/invoke/MethodHandle" ∧ zy_Operands_readField.cls ≠ "java/lang/invoke/VarHandle" ∧ (parseMethodDescriptor zy_Operands_readField.desc).map (fun d => d.parameters.length) = some 2 := by decide +kernel
theorem zh_Operands_isMarked : zy_Operands_isMarked.cls = "PlainSteps$Operands" ∧ zy_Operands_isMarked.cls ≠ "java/lang/invoke/MethodHandle" ∧ zy_Operands_isMarked.cls ≠ "java/lang/invoke/VarHandle" ∧ (parseMethodDescriptor zy_Operands_isMarked.desc).map (fun d => d.parameters.length) = some 1 := by decide +kernel
theorem zh_Program_init : zy_Program_init.cls ≠ "java/lang/invoke/MethodHandle" ∧ zy_Program_init.cls ≠ "java/lang/invoke/VarHandle" ∧ (parseMethodDescriptor zy_Program_init.desc).map (fun d => d.parameters.length) = some 0 := by decide +kernel
theorem zh_Program_addTransfer : zy_Program_addTransfer.cls = "PlainSteps$Program" ∧ zy_Program_addTransfer.cls ≠ "java/lang/invoke/MethodHandle" ∧ zy_Program_addTransfer.cls ≠ "java/lang/invoke/VarHandle" ∧ (parseMethodDescriptor zy_Program_addTransfer.desc).map (fun d => d.parameters.length) = some 4 := by decide +kernel
theorem zh_Program_addInstruction : zy_Program_addInstruction.cls = "PlainSteps$Program" ∧ zy_Program_addInstruction.cls ≠ "java/lang/invoke/MethodHandle" ∧ zy_Program_addInstruction.cls ≠ "java/lang/invoke/VarHandle" ∧ (parseMethodDescriptor zy_Program_addInstruction.desc).map (fun d => d.parameters.length) = some 3 := by decide +kernel
theorem zh_Program_find : zy_Program_find.cls = "PlainSteps$Program" ∧ zy_Program_find.cls ≠ "java/lang/invoke/MethodHandle" ∧ zy_Program_find.cls ≠ "java/lang/invoke/VarHandle" ∧ (parseMethodDescriptor zy_Program_find.desc).map (fun d => d.parameters.length) = some 1 := by decide +kernel
theorem zh_Program_is : zy_Program_is.cls = "PlainSteps$Program" ∧ zy_Program_is.cls ≠ "java/lang/invoke/MethodHandle" ∧ zy_Program_is.cls ≠ "java/lang/invoke/VarHandle" ∧ (parseMethodDescriptor zy_Program_is.desc).map (fun d => d.parameters.length) = some 2 := by decide +kernel
theorem zh_Kept_init : zy_Kept_init.cls ≠ "java/lang/invoke/MethodHandle" ∧ zy_Kept_init.cls ≠ "java/lang/invoke/VarHandle" ∧ (parseMethodDescriptor zy_Kept_init.desc).map (fun d => d.parameters.length) = some 0 := by decide +kernel
theorem zh_Kept_isFull : zy_Kept_isFull.cls = "PlainSteps$Kept" ∧ zy_Kept_isFull.cls ≠ "java/lang/invoke/MethodHandle" ∧ zy_Kept_isFull.cls ≠ "java/lang/invoke/VarHandle" ∧ (parseMethodDescriptor zy_Kept_isFull.desc).map (fun d => d.parameters.length) = some 0 := by decide +kernel
theorem zh_Kept_keep : zy_Kept_keep.cls = "PlainSteps$Kept" ∧ zy_Kept_keep.cls ≠ "java/lang/invoke/MethodHandle" ∧ zy_Kept_keep.cls ≠ "java/lang/invoke/VarHandle" ∧ (parseMethodDescriptor zy_Kept_keep.desc).map (fun d => d.parameters.length) = some 2 := by decide +kernel
theorem zh_Kept_goBack : zy_Kept_goBack.cls = "PlainSteps$Kept" ∧ zy_Kept_goBack.cls ≠ "java/lang/invoke/MethodHandle" ∧ zy_Kept_goBack.cls ≠ "java/lang/invoke/VarHandle" ∧ (parseMethodDescriptor zy_Kept_goBack.desc).map (fun d => d.parameters.length) = some 0 := by decide +kernel
theorem zh_Kept_restore : zy_Kept_restore.cls = "PlainSteps$Kept" ∧ zy_Kept_restore.cls ≠ "java/lang/invoke/MethodHandle" ∧ zy_Kept_restore.cls ≠ "java/lang/invoke/VarHandle" ∧ (parseMethodDescriptor zy_Kept_restore.desc).map (fun d => d.parameters.length) = some 2 := by decide +kernel
theorem zh_Lines_init : zy_Lines_init.cls ≠ "java/lang/invoke/MethodHandle" ∧ zy_Lines_init.cls ≠ "java/lang/invoke/VarHandle" ∧ (parseMethodDescriptor zy_Lines_init.desc).map (fun d => d.parameters.length) = some 0 := by decide +kernel
theorem zh_Lines_has : zy_Lines_has.cls = "PlainSteps$Lines" ∧ zy_Lines_has.cls ≠ "java/lang/invoke/MethodHandle" ∧ zy_Lines_has.cls ≠ "java/lang/invoke/VarHandle" ∧ (parseMethodDescriptor zy_Lines_has.desc).map (fun d => d.parameters.length) = some 1 := by decide +kernel
theorem zh_Lines_turn : zy_Lines_turn.cls = "PlainSteps$Lines" ∧ zy_Lines_turn.cls ≠ "java/lang/invoke/MethodHandle" ∧ zy_Lines_turn.cls ≠ "java/lang/invoke/VarHandle" ∧ (parseMethodDescriptor zy_Lines_turn.desc).map (fun d => d.parameters.length) = some 2 := by decide +kernel
theorem zh_Lines_giveRank : zy_Lines_giveRank.cls = "PlainSteps$Lines" ∧ zy_Lines_giveRank.cls ≠ "java/lang/invoke/MethodHandle" ∧ zy_Lines_giveRank.cls ≠ "java/lang/invoke/VarHandle" ∧ (parseMethodDescriptor zy_Lines_giveRank.desc).map (fun d => d.parameters.length) = some 2 := by decide +kernel
theorem zh_Lines_rankOf : zy_Lines_rankOf.cls = "PlainSteps$Lines" ∧ zy_Lines_rankOf.cls ≠ "java/lang/invoke/MethodHandle" ∧ zy_Lines_rankOf.cls ≠ "java/lang/invoke/VarHandle" ∧ (parseMethodDescriptor zy_Lines_rankOf.desc).map (fun d => d.parameters.length) = some 1 := by decide +kernel
theorem zh_Lines_mostUrgent : zy_Lines_mostUrgent.cls = "PlainSteps$Lines" ∧ zy_Lines_mostUrgent.cls ≠ "java/lang/invoke/MethodHandle" ∧ zy_Lines_mostUrgent.cls ≠ "java/lang/invoke/VarHandle" ∧ (parseMethodDescriptor zy_Lines_mostUrgent.desc).map (fun d => d.parameters.length) = some 1 := by decide +kernel
theorem zh_Writes_init : zy_Writes_init.cls ≠ "java/lang/invoke/MethodHandle" ∧ zy_Writes_init.cls ≠ "java/lang/invoke/VarHandle" ∧ (parseMethodDescriptor zy_Writes_init.desc).map (fun d => d.parameters.length) = some 2 := by decide +kernel
theorem zh_Writes_clear : zy_Writes_clear.cls = "PlainSteps$Writes" ∧ zy_Writes_clear.cls ≠ "java/lang/invoke/MethodHandle" ∧ zy_Writes_clear.cls ≠ "java/lang/invoke/VarHandle" ∧ (parseMethodDescriptor zy_Writes_clear.desc).map (fun d => d.parameters.length) = some 0 := by decide +kernel
theorem zh_Writes_note : zy_Writes_note.cls = "PlainSteps$Writes" ∧ zy_Writes_note.cls ≠ "java/lang/invoke/MethodHandle" ∧ zy_Writes_note.cls ≠ "java/lang/invoke/VarHandle" ∧ (parseMethodDescriptor zy_Writes_note.desc).map (fun d => d.parameters.length) = some 3 := by decide +kernel
theorem zh_Writes_noteReverse : zy_Writes_noteReverse.cls = "PlainSteps$Writes" ∧ zy_Writes_noteReverse.cls ≠ "java/lang/invoke/MethodHandle" ∧ zy_Writes_noteReverse.cls ≠ "java/lang/invoke/VarHandle" ∧ (parseMethodDescriptor zy_Writes_noteReverse.desc).map (fun d => d.parameters.length) = some 2 := by decide +kernel
theorem zh_Writes_perform : zy_Writes_perform.cls = "PlainSteps$Writes" ∧ zy_Writes_perform.cls ≠ "java/lang/invoke/MethodHandle" ∧ zy_Writes_perform.cls ≠ "java/lang/invoke/VarHandle" ∧ (parseMethodDescriptor zy_Writes_perform.desc).map (fun d => d.parameters.length) = some 3 := by decide +kernel
theorem zh_Writes_performInOrder : zy_Writes_performInOrder.cls = "PlainSteps$Writes" ∧ zy_Writes_performInOrder.cls ≠ "java/lang/invoke/MethodHandle" ∧ zy_Writes_performInOrder.cls ≠ "java/lang/invoke/VarHandle" ∧ (parseMethodDescriptor zy_Writes_performInOrder.desc).map (fun d => d.parameters.length) = some 0 := by decide +kernel
theorem zh_Writes_performBackwards : zy_Writes_performBackwards.cls = "PlainSteps$Writes" ∧ zy_Writes_performBackwards.cls ≠ "java/lang/invoke/MethodHandle" ∧ zy_Writes_performBackwards.cls ≠ "java/lang/invoke/VarHandle" ∧ (parseMethodDescriptor zy_Writes_performBackwards.desc).map (fun d => d.parameters.length) = some 0 := by decide +kernel
theorem zh_Work_init : zy_Work_init.cls ≠ "java/lang/invoke/MethodHandle" ∧ zy_Work_init.cls ≠ "java/lang/invoke/VarHandle" ∧ (parseMethodDescriptor zy_Work_init.desc).map (fun d => d.parameters.length) = some 6 := by decide +kernel
theorem zh_Work_carryOut : zy_Work_carryOut.cls = "PlainSteps$Work" ∧ zy_Work_carryOut.cls ≠ "java/lang/invoke/MethodHandle" ∧ zy_Work_carryOut.cls ≠ "java/lang/invoke/VarHandle" ∧ (parseMethodDescriptor zy_Work_carryOut.desc).map (fun d => d.parameters.length) = some 2 := by decide +kernel
theorem zh_Work_prepare : zy_Work_prepare.cls = "PlainSteps$Work" ∧ zy_Work_prepare.cls ≠ "java/lang/invoke/MethodHandle" ∧ zy_Work_prepare.cls ≠ "java/lang/invoke/VarHandle" ∧ (parseMethodDescriptor zy_Work_prepare.desc).map (fun d => d.parameters.length) = some 2 := by decide +kernel
theorem zh_Work_writeWhatWaits : zy_Work_writeWhatWaits.cls = "PlainSteps$Work" ∧ zy_Work_writeWhatWaits.cls ≠ "java/lang/invoke/MethodHandle" ∧ zy_Work_writeWhatWaits.cls ≠ "java/lang/invoke/VarHandle" ∧ (parseMethodDescriptor zy_Work_writeWhatWaits.desc).map (fun d => d.parameters.length) = some 0 := by decide +kernel
theorem zh_Work_takeBack : zy_Work_takeBack.cls = "PlainSteps$Work" ∧ zy_Work_takeBack.cls ≠ "java/lang/invoke/MethodHandle" ∧ zy_Work_takeBack.cls ≠ "java/lang/invoke/VarHandle" ∧ (parseMethodDescriptor zy_Work_takeBack.desc).map (fun d => d.parameters.length) = some 0 := by decide +kernel
theorem zh_Work_doTransfer : zy_Work_doTransfer.cls = "PlainSteps$Work" ∧ zy_Work_doTransfer.cls ≠ "java/lang/invoke/MethodHandle" ∧ zy_Work_doTransfer.cls ≠ "java/lang/invoke/VarHandle" ∧ (parseMethodDescriptor zy_Work_doTransfer.desc).map (fun d => d.parameters.length) = some 1 := by decide +kernel
theorem zh_Work_divide : zy_Work_divide.cls = "PlainSteps$Work" ∧ zy_Work_divide.cls ≠ "java/lang/invoke/MethodHandle" ∧ zy_Work_divide.cls ≠ "java/lang/invoke/VarHandle" ∧ (parseMethodDescriptor zy_Work_divide.desc).map (fun d => d.parameters.length) = some 5 := by decide +kernel
theorem zh_Work_load : zy_Work_load.cls = "PlainSteps$Work" ∧ zy_Work_load.cls ≠ "java/lang/invoke/MethodHandle" ∧ zy_Work_load.cls ≠ "java/lang/invoke/VarHandle" ∧ (parseMethodDescriptor zy_Work_load.desc).map (fun d => d.parameters.length) = some 4 := by decide +kernel
theorem zh_Work_store : zy_Work_store.cls = "PlainSteps$Work" ∧ zy_Work_store.cls ≠ "java/lang/invoke/MethodHandle" ∧ zy_Work_store.cls ≠ "java/lang/invoke/VarHandle" ∧ (parseMethodDescriptor zy_Work_store.desc).map (fun d => d.parameters.length) = some 3 := by decide +kernel
theorem zh_Work_goBack : zy_Work_goBack.cls = "PlainSteps$Work" ∧ zy_Work_goBack.cls ≠ "java/lang/invoke/MethodHandle" ∧ zy_Work_goBack.cls ≠ "java/lang/invoke/VarHandle" ∧ (parseMethodDescriptor zy_Work_goBack.desc).map (fun d => d.parameters.length) = some 0 := by decide +kernel
theorem zh_Work_write : zy_Work_write.cls = "PlainSteps$Work" ∧ zy_Work_write.cls ≠ "java/lang/invoke/MethodHandle" ∧ zy_Work_write.cls ≠ "java/lang/invoke/VarHandle" ∧ (parseMethodDescriptor zy_Work_write.desc).map (fun d => d.parameters.length) = some 3 := by decide +kernel
theorem zh_Work_result : zy_Work_result.cls = "PlainSteps$Work" ∧ zy_Work_result.cls ≠ "java/lang/invoke/MethodHandle" ∧ zy_Work_result.cls ≠ "java/lang/invoke/VarHandle" ∧ (parseMethodDescriptor zy_Work_result.desc).map (fun d => d.parameters.length) = some 3 := by decide +kernel
theorem zh_Work_isBelow : zy_Work_isBelow.cls = "PlainSteps$Work" ∧ zy_Work_isBelow.cls ≠ "java/lang/invoke/MethodHandle" ∧ zy_Work_isBelow.cls ≠ "java/lang/invoke/VarHandle" ∧ (parseMethodDescriptor zy_Work_isBelow.desc).map (fun d => d.parameters.length) = some 2 := by decide +kernel
theorem zh_Work_quotient : zy_Work_quotient.cls = "PlainSteps$Work" ∧ zy_Work_quotient.cls ≠ "java/lang/invoke/MethodHandle" ∧ zy_Work_quotient.cls ≠ "java/lang/invoke/VarHandle" ∧ (parseMethodDescriptor zy_Work_quotient.desc).map (fun d => d.parameters.length) = some 2 := by decide +kernel
theorem zh_Machine_init : zy_Machine_init.cls ≠ "java/lang/invoke/MethodHandle" ∧ zy_Machine_init.cls ≠ "java/lang/invoke/VarHandle" ∧ (parseMethodDescriptor zy_Machine_init.desc).map (fun d => d.parameters.length) = some 7 := by decide +kernel
theorem zh_Machine_loseWaiting : zy_Machine_loseWaiting.cls = "PlainSteps$Machine" ∧ zy_Machine_loseWaiting.cls ≠ "java/lang/invoke/MethodHandle" ∧ zy_Machine_loseWaiting.cls ≠ "java/lang/invoke/VarHandle" ∧ (parseMethodDescriptor zy_Machine_loseWaiting.desc).map (fun d => d.parameters.length) = some 0 := by decide +kernel
theorem zh_Machine_takeStep : zy_Machine_takeStep.cls = "PlainSteps$Machine" ∧ zy_Machine_takeStep.cls ≠ "java/lang/invoke/MethodHandle" ∧ zy_Machine_takeStep.cls ≠ "java/lang/invoke/VarHandle" ∧ (parseMethodDescriptor zy_Machine_takeStep.desc).map (fun d => d.parameters.length) = some 0 := by decide +kernel
theorem zh_Machine_interruptBy : zy_Machine_interruptBy.cls = "PlainSteps$Machine" ∧ zy_Machine_interruptBy.cls ≠ "java/lang/invoke/MethodHandle" ∧ zy_Machine_interruptBy.cls ≠ "java/lang/invoke/VarHandle" ∧ (parseMethodDescriptor zy_Machine_interruptBy.desc).map (fun d => d.parameters.length) = some 1 := by decide +kernel
theorem zh_Machine_settlePlace : zy_Machine_settlePlace.cls = "PlainSteps$Machine" ∧ zy_Machine_settlePlace.cls ≠ "java/lang/invoke/MethodHandle" ∧ zy_Machine_settlePlace.cls ≠ "java/lang/invoke/VarHandle" ∧ (parseMethodDescriptor zy_Machine_settlePlace.desc).map (fun d => d.parameters.length) = some 2 := by decide +kernel
theorem zh_Machine_failWith : zy_Machine_failWith.cls = "PlainSteps$Machine" ∧ zy_Machine_failWith.cls ≠ "java/lang/invoke/MethodHandle" ∧ zy_Machine_failWith.cls ≠ "java/lang/invoke/VarHandle" ∧ (parseMethodDescriptor zy_Machine_failWith.desc).map (fun d => d.parameters.length) = some 2 := by decide +kernel
theorem zh_PS_init : zy_PS_init.cls ≠ "java/lang/invoke/MethodHandle" ∧ zy_PS_init.cls ≠ "java/lang/invoke/VarHandle" ∧ (parseMethodDescriptor zy_PS_init.desc).map (fun d => d.parameters.length) = some 0 := by decide +kernel
theorem zh_PS_register : zy_PS_register.cls = "PlainSteps" ∧ zy_PS_register.cls ≠ "java/lang/invoke/MethodHandle" ∧ zy_PS_register.cls ≠ "java/lang/invoke/VarHandle" ∧ (parseMethodDescriptor zy_PS_register.desc).map (fun d => d.parameters.length) = some 1 := by decide +kernel
theorem zh_PS_constant : zy_PS_constant.cls = "PlainSteps" ∧ zy_PS_constant.cls ≠ "java/lang/invoke/MethodHandle" ∧ zy_PS_constant.cls ≠ "java/lang/invoke/VarHandle" ∧ (parseMethodDescriptor zy_PS_constant.desc).map (fun d => d.parameters.length) = some 1 := by decide +kernel
theorem zh_PS_field : zy_PS_field.cls = "PlainSteps" ∧ zy_PS_field.cls ≠ "java/lang/invoke/MethodHandle" ∧ zy_PS_field.cls ≠ "java/lang/invoke/VarHandle" ∧ (parseMethodDescriptor zy_PS_field.desc).map (fun d => d.parameters.length) = some 3 := by decide +kernel
theorem zh_PS_transfer : zy_PS_transfer.cls = "PlainSteps" ∧ zy_PS_transfer.cls ≠ "java/lang/invoke/MethodHandle" ∧ zy_PS_transfer.cls ≠ "java/lang/invoke/VarHandle" ∧ (parseMethodDescriptor zy_PS_transfer.desc).map (fun d => d.parameters.length) = some 4 := by decide +kernel
theorem zh_PS_instruction : zy_PS_instruction.cls = "PlainSteps" ∧ zy_PS_instruction.cls ≠ "java/lang/invoke/MethodHandle" ∧ zy_PS_instruction.cls ≠ "java/lang/invoke/VarHandle" ∧ (parseMethodDescriptor zy_PS_instruction.desc).map (fun d => d.parameters.length) = some 3 := by decide +kernel
theorem zh_PS_memory : zy_PS_memory.cls = "PlainSteps" ∧ zy_PS_memory.cls ≠ "java/lang/invoke/MethodHandle" ∧ zy_PS_memory.cls ≠ "java/lang/invoke/VarHandle" ∧ (parseMethodDescriptor zy_PS_memory.desc).map (fun d => d.parameters.length) = some 2 := by decide +kernel
theorem zh_PS_byteAt : zy_PS_byteAt.cls = "PlainSteps" ∧ zy_PS_byteAt.cls ≠ "java/lang/invoke/MethodHandle" ∧ zy_PS_byteAt.cls ≠ "java/lang/invoke/VarHandle" ∧ (parseMethodDescriptor zy_PS_byteAt.desc).map (fun d => d.parameters.length) = some 1 := by decide +kernel
theorem zh_PS_step : zy_PS_step.cls = "PlainSteps" ∧ zy_PS_step.cls ≠ "java/lang/invoke/MethodHandle" ∧ zy_PS_step.cls ≠ "java/lang/invoke/VarHandle" ∧ (parseMethodDescriptor zy_PS_step.desc).map (fun d => d.parameters.length) = some 1 := by decide +kernel
theorem zh_PS_set : zy_PS_set.cls = "PlainSteps" ∧ zy_PS_set.cls ≠ "java/lang/invoke/MethodHandle" ∧ zy_PS_set.cls ≠ "java/lang/invoke/VarHandle" ∧ (parseMethodDescriptor zy_PS_set.desc).map (fun d => d.parameters.length) = some 2 := by decide +kernel
theorem zh_PS_get : zy_PS_get.cls = "PlainSteps" ∧ zy_PS_get.cls ≠ "java/lang/invoke/MethodHandle" ∧ zy_PS_get.cls ≠ "java/lang/invoke/VarHandle" ∧ (parseMethodDescriptor zy_PS_get.desc).map (fun d => d.parameters.length) = some 1 := by decide +kernel
theorem zh_PS_mark : zy_PS_mark.cls = "PlainSteps" ∧ zy_PS_mark.cls ≠ "java/lang/invoke/MethodHandle" ∧ zy_PS_mark.cls ≠ "java/lang/invoke/VarHandle" ∧ (parseMethodDescriptor zy_PS_mark.desc).map (fun d => d.parameters.length) = some 1 := by decide +kernel
theorem zh_PS_line : zy_PS_line.cls = "PlainSteps" ∧ zy_PS_line.cls ≠ "java/lang/invoke/MethodHandle" ∧ zy_PS_line.cls ≠ "java/lang/invoke/VarHandle" ∧ (parseMethodDescriptor zy_PS_line.desc).map (fun d => d.parameters.length) = some 2 := by decide +kernel
theorem zh_PS_enable : zy_PS_enable.cls = "PlainSteps" ∧ zy_PS_enable.cls ≠ "java/lang/invoke/MethodHandle" ∧ zy_PS_enable.cls ≠ "java/lang/invoke/VarHandle" ∧ (parseMethodDescriptor zy_PS_enable.desc).map (fun d => d.parameters.length) = some 2 := by decide +kernel
theorem zh_PS_fault : zy_PS_fault.cls = "PlainSteps" ∧ zy_PS_fault.cls ≠ "java/lang/invoke/MethodHandle" ∧ zy_PS_fault.cls ≠ "java/lang/invoke/VarHandle" ∧ (parseMethodDescriptor zy_PS_fault.desc).map (fun d => d.parameters.length) = some 1 := by decide +kernel
theorem zh_PS_halted : zy_PS_halted.cls = "PlainSteps" ∧ zy_PS_halted.cls ≠ "java/lang/invoke/MethodHandle" ∧ zy_PS_halted.cls ≠ "java/lang/invoke/VarHandle" ∧ (parseMethodDescriptor zy_PS_halted.desc).map (fun d => d.parameters.length) = some 0 := by decide +kernel
theorem zh_PS_counter : zy_PS_counter.cls = "PlainSteps" ∧ zy_PS_counter.cls ≠ "java/lang/invoke/MethodHandle" ∧ zy_PS_counter.cls ≠ "java/lang/invoke/VarHandle" ∧ (parseMethodDescriptor zy_PS_counter.desc).map (fun d => d.parameters.length) = some 1 := by decide +kernel
theorem zh_M_init : zy_M_init.cls ≠ "java/lang/invoke/MethodHandle" ∧ zy_M_init.cls ≠ "java/lang/invoke/VarHandle" ∧ (parseMethodDescriptor zy_M_init.desc).map (fun d => d.parameters.length) = some 0 := by decide +kernel
theorem zh_M_thrown : zy_M_thrown.cls = "PlainStepsModel" ∧ zy_M_thrown.cls ≠ "java/lang/invoke/MethodHandle" ∧ zy_M_thrown.cls ≠ "java/lang/invoke/VarHandle" ∧ (parseMethodDescriptor zy_M_thrown.desc).map (fun d => d.parameters.length) = some 0 := by decide +kernel
theorem zh_M_in : zy_M_in.cls = "PlainStepsModel" ∧ zy_M_in.cls ≠ "java/lang/invoke/MethodHandle" ∧ zy_M_in.cls ≠ "java/lang/invoke/VarHandle" ∧ (parseMethodDescriptor zy_M_in.desc).map (fun d => d.parameters.length) = some 3 := by decide +kernel
theorem zh_M_goes : zy_M_goes.cls = "PlainStepsModel" ∧ zy_M_goes.cls ≠ "java/lang/invoke/MethodHandle" ∧ zy_M_goes.cls ≠ "java/lang/invoke/VarHandle" ∧ (parseMethodDescriptor zy_M_goes.desc).map (fun d => d.parameters.length) = some 2 := by decide +kernel
theorem zh_M_cut : zy_M_cut.cls = "PlainStepsModel" ∧ zy_M_cut.cls ≠ "java/lang/invoke/MethodHandle" ∧ zy_M_cut.cls ≠ "java/lang/invoke/VarHandle" ∧ (parseMethodDescriptor zy_M_cut.desc).map (fun d => d.parameters.length) = some 2 := by decide +kernel
theorem zh_M_register : zy_M_register.cls = "PlainStepsModel" ∧ zy_M_register.cls ≠ "java/lang/invoke/MethodHandle" ∧ zy_M_register.cls ≠ "java/lang/invoke/VarHandle" ∧ (parseMethodDescriptor zy_M_register.desc).map (fun d => d.parameters.length) = some 1 := by decide +kernel
theorem zh_M_constant : zy_M_constant.cls = "PlainStepsModel" ∧ zy_M_constant.cls ≠ "java/lang/invoke/MethodHandle" ∧ zy_M_constant.cls ≠ "java/lang/invoke/VarHandle" ∧ (parseMethodDescriptor zy_M_constant.desc).map (fun d => d.parameters.length) = some 1 := by decide +kernel
theorem zh_M_field : zy_M_field.cls = "PlainStepsModel" ∧ zy_M_field.cls ≠ "java/lang/invoke/MethodHandle" ∧ zy_M_field.cls ≠ "java/lang/invoke/VarHandle" ∧ (parseMethodDescriptor zy_M_field.desc).map (fun d => d.parameters.length) = some 3 := by decide +kernel
theorem zh_M_isOperand : zy_M_isOperand.cls = "PlainStepsModel" ∧ zy_M_isOperand.cls ≠ "java/lang/invoke/MethodHandle" ∧ zy_M_isOperand.cls ≠ "java/lang/invoke/VarHandle" ∧ (parseMethodDescriptor zy_M_isOperand.desc).map (fun d => d.parameters.length) = some 1 := by decide +kernel
theorem zh_M_transfer : zy_M_transfer.cls = "PlainStepsModel" ∧ zy_M_transfer.cls ≠ "java/lang/invoke/MethodHandle" ∧ zy_M_transfer.cls ≠ "java/lang/invoke/VarHandle" ∧ (parseMethodDescriptor zy_M_transfer.desc).map (fun d => d.parameters.length) = some 4 := by decide +kernel
theorem zh_M_instruction : zy_M_instruction.cls = "PlainStepsModel" ∧ zy_M_instruction.cls ≠ "java/lang/invoke/MethodHandle" ∧ zy_M_instruction.cls ≠ "java/lang/invoke/VarHandle" ∧ (parseMethodDescriptor zy_M_instruction.desc).map (fun d => d.parameters.length) = some 3 := by decide +kernel
theorem zh_M_memory : zy_M_memory.cls = "PlainStepsModel" ∧ zy_M_memory.cls ≠ "java/lang/invoke/MethodHandle" ∧ zy_M_memory.cls ≠ "java/lang/invoke/VarHandle" ∧ (parseMethodDescriptor zy_M_memory.desc).map (fun d => d.parameters.length) = some 2 := by decide +kernel
theorem zh_M_byteAt : zy_M_byteAt.cls = "PlainStepsModel" ∧ zy_M_byteAt.cls ≠ "java/lang/invoke/MethodHandle" ∧ zy_M_byteAt.cls ≠ "java/lang/invoke/VarHandle" ∧ (parseMethodDescriptor zy_M_byteAt.desc).map (fun d => d.parameters.length) = some 1 := by decide +kernel
theorem zh_M_keep : zy_M_keep.cls = "PlainStepsModel" ∧ zy_M_keep.cls ≠ "java/lang/invoke/MethodHandle" ∧ zy_M_keep.cls ≠ "java/lang/invoke/VarHandle" ∧ (parseMethodDescriptor zy_M_keep.desc).map (fun d => d.parameters.length) = some 3 := by decide +kernel
theorem zh_M_takeFault : zy_M_takeFault.cls = "PlainStepsModel" ∧ zy_M_takeFault.cls ≠ "java/lang/invoke/MethodHandle" ∧ zy_M_takeFault.cls ≠ "java/lang/invoke/VarHandle" ∧ (parseMethodDescriptor zy_M_takeFault.desc).map (fun d => d.parameters.length) = some 1 := by decide +kernel
theorem zh_M_waitingLine : zy_M_waitingLine.cls = "PlainStepsModel" ∧ zy_M_waitingLine.cls ≠ "java/lang/invoke/MethodHandle" ∧ zy_M_waitingLine.cls ≠ "java/lang/invoke/VarHandle" ∧ (parseMethodDescriptor zy_M_waitingLine.desc).map (fun d => d.parameters.length) = some 0 := by decide +kernel
theorem zh_M_isParallel : zy_M_isParallel.cls = "PlainStepsModel" ∧ zy_M_isParallel.cls ≠ "java/lang/invoke/MethodHandle" ∧ zy_M_isParallel.cls ≠ "java/lang/invoke/VarHandle" ∧ (parseMethodDescriptor zy_M_isParallel.desc).map (fun d => d.parameters.length) = some 1 := by decide +kernel
theorem zh_M_operand : zy_M_operand.cls = "PlainStepsModel" ∧ zy_M_operand.cls ≠ "java/lang/invoke/MethodHandle" ∧ zy_M_operand.cls ≠ "java/lang/invoke/VarHandle" ∧ (parseMethodDescriptor zy_M_operand.desc).map (fun d => d.parameters.length) = some 2 := by decide +kernel
theorem zh_M_isMarked : zy_M_isMarked.cls = "PlainStepsModel" ∧ zy_M_isMarked.cls ≠ "java/lang/invoke/MethodHandle" ∧ zy_M_isMarked.cls ≠ "java/lang/invoke/VarHandle" ∧ (parseMethodDescriptor zy_M_isMarked.desc).map (fun d => d.parameters.length) = some 2 := by decide +kernel
theorem zh_M_setRegister : zy_M_setRegister.cls = "PlainStepsModel" ∧ zy_M_setRegister.cls ≠ "java/lang/invoke/MethodHandle" ∧ zy_M_setRegister.cls ≠ "java/lang/invoke/VarHandle" ∧ (parseMethodDescriptor zy_M_setRegister.desc).map (fun d => d.parameters.length) = some 3 := by decide +kernel
theorem zh_M_setMemory : zy_M_setMemory.cls = "PlainStepsModel" ∧ zy_M_setMemory.cls ≠ "java/lang/invoke/MethodHandle" ∧ zy_M_setMemory.cls ≠ "java/lang/invoke/VarHandle" ∧ (parseMethodDescriptor zy_M_setMemory.desc).map (fun d => d.parameters.length) = some 3 := by decide +kernel
theorem zh_M_later : zy_M_later.cls = "PlainStepsModel" ∧ zy_M_later.cls ≠ "java/lang/invoke/MethodHandle" ∧ zy_M_later.cls ≠ "java/lang/invoke/VarHandle" ∧ (parseMethodDescriptor zy_M_later.desc).map (fun d => d.parameters.length) = some 4 := by decide +kernel
theorem zh_M_result : zy_M_result.cls = "PlainStepsModel" ∧ zy_M_result.cls ≠ "java/lang/invoke/MethodHandle" ∧ zy_M_result.cls ≠ "java/lang/invoke/VarHandle" ∧ (parseMethodDescriptor zy_M_result.desc).map (fun d => d.parameters.length) = some 4 := by decide +kernel
theorem zh_M_markOnly : zy_M_markOnly.cls = "PlainStepsModel" ∧ zy_M_markOnly.cls ≠ "java/lang/invoke/MethodHandle" ∧ zy_M_markOnly.cls ≠ "java/lang/invoke/VarHandle" ∧ (parseMethodDescriptor zy_M_markOnly.desc).map (fun d => d.parameters.length) = some 2 := by decide +kernel
theorem zh_M_writeAll : zy_M_writeAll.cls = "PlainStepsModel" ∧ zy_M_writeAll.cls ≠ "java/lang/invoke/MethodHandle" ∧ zy_M_writeAll.cls ≠ "java/lang/invoke/VarHandle" ∧ (parseMethodDescriptor zy_M_writeAll.desc).map (fun d => d.parameters.length) = some 0 := by decide +kernel
theorem zh_M_isLess : zy_M_isLess.cls = "PlainStepsModel" ∧ zy_M_isLess.cls ≠ "java/lang/invoke/MethodHandle" ∧ zy_M_isLess.cls ≠ "java/lang/invoke/VarHandle" ∧ (parseMethodDescriptor zy_M_isLess.desc).map (fun d => d.parameters.length) = some 2 := by decide +kernel
theorem zh_M_quotient : zy_M_quotient.cls = "PlainStepsModel" ∧ zy_M_quotient.cls ≠ "java/lang/invoke/MethodHandle" ∧ zy_M_quotient.cls ≠ "java/lang/invoke/VarHandle" ∧ (parseMethodDescriptor zy_M_quotient.desc).map (fun d => d.parameters.length) = some 2 := by decide +kernel
theorem zh_M_simple : zy_M_simple.cls = "PlainStepsModel" ∧ zy_M_simple.cls ≠ "java/lang/invoke/MethodHandle" ∧ zy_M_simple.cls ≠ "java/lang/invoke/VarHandle" ∧ (parseMethodDescriptor zy_M_simple.desc).map (fun d => d.parameters.length) = some 3 := by decide +kernel
theorem zh_M_isThere : zy_M_isThere.cls = "PlainStepsModel" ∧ zy_M_isThere.cls ≠ "java/lang/invoke/MethodHandle" ∧ zy_M_isThere.cls ≠ "java/lang/invoke/VarHandle" ∧ (parseMethodDescriptor zy_M_isThere.desc).map (fun d => d.parameters.length) = some 2 := by decide +kernel
theorem zh_M_compute : zy_M_compute.cls = "PlainStepsModel" ∧ zy_M_compute.cls ≠ "java/lang/invoke/MethodHandle" ∧ zy_M_compute.cls ≠ "java/lang/invoke/VarHandle" ∧ (parseMethodDescriptor zy_M_compute.desc).map (fun d => d.parameters.length) = some 4 := by decide +kernel
theorem zh_M_store : zy_M_store.cls = "PlainStepsModel" ∧ zy_M_store.cls ≠ "java/lang/invoke/MethodHandle" ∧ zy_M_store.cls ≠ "java/lang/invoke/VarHandle" ∧ (parseMethodDescriptor zy_M_store.desc).map (fun d => d.parameters.length) = some 4 := by decide +kernel
theorem zh_M_back : zy_M_back.cls = "PlainStepsModel" ∧ zy_M_back.cls ≠ "java/lang/invoke/MethodHandle" ∧ zy_M_back.cls ≠ "java/lang/invoke/VarHandle" ∧ (parseMethodDescriptor zy_M_back.desc).map (fun d => d.parameters.length) = some 0 := by decide +kernel
theorem zh_M_doTransfer : zy_M_doTransfer.cls = "PlainStepsModel" ∧ zy_M_doTransfer.cls ≠ "java/lang/invoke/MethodHandle" ∧ zy_M_doTransfer.cls ≠ "java/lang/invoke/VarHandle" ∧ (parseMethodDescriptor zy_M_doTransfer.desc).map (fun d => d.parameters.length) = some 2 := by decide +kernel
theorem zh_M_save : zy_M_save.cls = "PlainStepsModel" ∧ zy_M_save.cls ≠ "java/lang/invoke/MethodHandle" ∧ zy_M_save.cls ≠ "java/lang/invoke/VarHandle" ∧ (parseMethodDescriptor zy_M_save.desc).map (fun d => d.parameters.length) = some 0 := by decide +kernel
theorem zh_M_restore : zy_M_restore.cls = "PlainStepsModel" ∧ zy_M_restore.cls ≠ "java/lang/invoke/MethodHandle" ∧ zy_M_restore.cls ≠ "java/lang/invoke/VarHandle" ∧ (parseMethodDescriptor zy_M_restore.desc).map (fun d => d.parameters.length) = some 0 := by decide +kernel
theorem zh_M_find : zy_M_find.cls = "PlainStepsModel" ∧ zy_M_find.cls ≠ "java/lang/invoke/MethodHandle" ∧ zy_M_find.cls ≠ "java/lang/invoke/VarHandle" ∧ (parseMethodDescriptor zy_M_find.desc).map (fun d => d.parameters.length) = some 0 := by decide +kernel
theorem zh_M_doAll : zy_M_doAll.cls = "PlainStepsModel" ∧ zy_M_doAll.cls ≠ "java/lang/invoke/MethodHandle" ∧ zy_M_doAll.cls ≠ "java/lang/invoke/VarHandle" ∧ (parseMethodDescriptor zy_M_doAll.desc).map (fun d => d.parameters.length) = some 1 := by decide +kernel
theorem zh_M_comePlace : zy_M_comePlace.cls = "PlainStepsModel" ∧ zy_M_comePlace.cls ≠ "java/lang/invoke/MethodHandle" ∧ zy_M_comePlace.cls ≠ "java/lang/invoke/VarHandle" ∧ (parseMethodDescriptor zy_M_comePlace.desc).map (fun d => d.parameters.length) = some 1 := by decide +kernel
theorem zh_M_doInstruction : zy_M_doInstruction.cls = "PlainStepsModel" ∧ zy_M_doInstruction.cls ≠ "java/lang/invoke/MethodHandle" ∧ zy_M_doInstruction.cls ≠ "java/lang/invoke/VarHandle" ∧ (parseMethodDescriptor zy_M_doInstruction.desc).map (fun d => d.parameters.length) = some 0 := by decide +kernel
theorem zh_M_stepOnce : zy_M_stepOnce.cls = "PlainStepsModel" ∧ zy_M_stepOnce.cls ≠ "java/lang/invoke/MethodHandle" ∧ zy_M_stepOnce.cls ≠ "java/lang/invoke/VarHandle" ∧ (parseMethodDescriptor zy_M_stepOnce.desc).map (fun d => d.parameters.length) = some 0 := by decide +kernel
theorem zh_M_step : zy_M_step.cls = "PlainStepsModel" ∧ zy_M_step.cls ≠ "java/lang/invoke/MethodHandle" ∧ zy_M_step.cls ≠ "java/lang/invoke/VarHandle" ∧ (parseMethodDescriptor zy_M_step.desc).map (fun d => d.parameters.length) = some 1 := by decide +kernel
theorem zh_M_isRegister : zy_M_isRegister.cls = "PlainStepsModel" ∧ zy_M_isRegister.cls ≠ "java/lang/invoke/MethodHandle" ∧ zy_M_isRegister.cls ≠ "java/lang/invoke/VarHandle" ∧ (parseMethodDescriptor zy_M_isRegister.desc).map (fun d => d.parameters.length) = some 1 := by decide +kernel
theorem zh_M_set : zy_M_set.cls = "PlainStepsModel" ∧ zy_M_set.cls ≠ "java/lang/invoke/MethodHandle" ∧ zy_M_set.cls ≠ "java/lang/invoke/VarHandle" ∧ (parseMethodDescriptor zy_M_set.desc).map (fun d => d.parameters.length) = some 2 := by decide +kernel
theorem zh_M_get : zy_M_get.cls = "PlainStepsModel" ∧ zy_M_get.cls ≠ "java/lang/invoke/MethodHandle" ∧ zy_M_get.cls ≠ "java/lang/invoke/VarHandle" ∧ (parseMethodDescriptor zy_M_get.desc).map (fun d => d.parameters.length) = some 1 := by decide +kernel
theorem zh_M_mark : zy_M_mark.cls = "PlainStepsModel" ∧ zy_M_mark.cls ≠ "java/lang/invoke/MethodHandle" ∧ zy_M_mark.cls ≠ "java/lang/invoke/VarHandle" ∧ (parseMethodDescriptor zy_M_mark.desc).map (fun d => d.parameters.length) = some 1 := by decide +kernel
theorem zh_M_line : zy_M_line.cls = "PlainStepsModel" ∧ zy_M_line.cls ≠ "java/lang/invoke/MethodHandle" ∧ zy_M_line.cls ≠ "java/lang/invoke/VarHandle" ∧ (parseMethodDescriptor zy_M_line.desc).map (fun d => d.parameters.length) = some 2 := by decide +kernel
theorem zh_M_enable : zy_M_enable.cls = "PlainStepsModel" ∧ zy_M_enable.cls ≠ "java/lang/invoke/MethodHandle" ∧ zy_M_enable.cls ≠ "java/lang/invoke/VarHandle" ∧ (parseMethodDescriptor zy_M_enable.desc).map (fun d => d.parameters.length) = some 2 := by decide +kernel
theorem zh_M_fault : zy_M_fault.cls = "PlainStepsModel" ∧ zy_M_fault.cls ≠ "java/lang/invoke/MethodHandle" ∧ zy_M_fault.cls ≠ "java/lang/invoke/VarHandle" ∧ (parseMethodDescriptor zy_M_fault.desc).map (fun d => d.parameters.length) = some 1 := by decide +kernel
theorem zh_M_halted : zy_M_halted.cls = "PlainStepsModel" ∧ zy_M_halted.cls ≠ "java/lang/invoke/MethodHandle" ∧ zy_M_halted.cls ≠ "java/lang/invoke/VarHandle" ∧ (parseMethodDescriptor zy_M_halted.desc).map (fun d => d.parameters.length) = some 0 := by decide +kernel
theorem zh_M_counter : zy_M_counter.cls = "PlainStepsModel" ∧ zy_M_counter.cls ≠ "java/lang/invoke/MethodHandle" ∧ zy_M_counter.cls ≠ "java/lang/invoke/VarHandle" ∧ (parseMethodDescriptor zy_M_counter.desc).map (fun d => d.parameters.length) = some 1 := by decide +kernel
end
section
/-! helpers of this proof: pure words for what the machine computes; branches; a call on cells of a world, laid back in their places -/
def zq_bz (x : Int32) : Prop := x = 0 ∨ x = 1
theorem zq_bzn {x : Int32} (h : zq_bz x) : narrow .boolean (.int x) = .int x := by
  rcases h with rfl | rfl <;> rfl
theorem zq_bzf {x : Int32} (h : zq_bz x) : fits .boolean (.int x) = true := by
  rcases h with rfl | rfl <;> rfl
theorem zq_it {c A B : Prop} [Decidable c] (hc : c) (h : if c then A else B) : A := by
  rw [if_pos hc] at h
  exact h
theorem zq_if {c A B : Prop} [Decidable c] (hc : ¬ c) (h : if c then A else B) : B := by
  rw [if_neg hc] at h
  exact h
theorem zq_in {i : Int32} {n : Nat} (h : decide (¬ (i < 0 ∨ n ≤ i.toNatClampNeg)) = true) : vp_in i n := by
  unfold vp_in
  exact of_decide_eq_true h
theorem zq_lc_eq {x y : Int64} : lg_cmp x y = 0 ↔ x = y := by
  unfold lg_cmp
  by_cases h1 : x > y
  · rw [if_pos h1]
    refine ⟨fun h => absurd h (by decide), fun h => ?_⟩
    rw [h] at h1
    exact absurd h1 (by rw [gt_iff_lt, Int64.lt_iff_toInt_lt]; omega)
  · rw [if_neg h1]
    by_cases h2 : x = y
    · rw [if_pos h2]; exact ⟨fun _ => h2, fun _ => rfl⟩
    · rw [if_neg h2]; exact ⟨fun h => absurd h (by decide), fun h => absurd h h2⟩
theorem zq_lc_gt {x y : Int64} : 0 < lg_cmp x y ↔ y < x := by
  unfold lg_cmp
  by_cases h1 : x > y
  · rw [if_pos h1]; exact ⟨fun _ => h1, fun _ => by decide⟩
  · rw [if_neg h1]
    by_cases h2 : x = y
    · rw [if_pos h2]; exact ⟨fun h => absurd h (by decide), fun h => absurd h h1⟩
    · rw [if_neg h2]; exact ⟨fun h => absurd h (by decide), fun h => absurd h h1⟩
theorem zq_lc_le {x y : Int64} : lg_cmp x y ≤ 0 ↔ x ≤ y := by
  have e : x ≤ y ↔ ¬ y < x := by rw [Int64.le_iff_toInt_le, Int64.lt_iff_toInt_lt]; omega
  have e2 : lg_cmp x y ≤ 0 ↔ ¬ 0 < lg_cmp x y := by
    rw [Int32.le_iff_toInt_le, Int32.lt_iff_toInt_lt]; omega
  rw [e, e2, zq_lc_gt]
theorem zq_lc_ge {x y : Int64} : 0 ≤ lg_cmp x y ↔ y ≤ x := lg_cmp_ge x y
theorem zq_lc_lt {x y : Int64} : lg_cmp x y < 0 ↔ x < y := by
  have e : x < y ↔ ¬ y ≤ x := by rw [Int64.le_iff_toInt_le, Int64.lt_iff_toInt_lt]; omega
  have e2 : lg_cmp x y < 0 ↔ ¬ 0 ≤ lg_cmp x y := by
    rw [Int32.le_iff_toInt_le, Int32.lt_iff_toInt_lt]; omega
  rw [e, e2, zq_lc_ge]
def zq_j_i2l (x : Int32) : Int64 := x.toInt64
def zq_j_l2i (x : Int64) : Int32 := x.toInt32
def zq_j_i2b (x : Int32) : Int32 := x.toInt8.toInt32
def zq_j_i2s (x : Int32) : Int32 := x.toInt16.toInt32
def zq_j_i2c (x : Int32) : Int32 := (x.toUInt32 % 65536).toInt32
def zq_j_iushr (x y : Int32) : Int32 := (x.toUInt32 >>> (y.toUInt32 &&& Int32.toUInt32 31)).toInt32
def zq_j_lushr (x : Int64) (y : Int32) : Int64 := (x.toUInt64 >>> (y.toInt64.toUInt64 &&& Int64.toUInt64 63)).toInt64
def zq_j_lshl (x : Int64) (y : Int32) : Int64 := x <<< (y.toInt64 &&& 63)
def zq_j_lshr (x : Int64) (y : Int32) : Int64 := x >>> (y.toInt64 &&& 63)
-- cells laid into a world, at their places
def zq_put : va_W → List Nat → va_W → va_W
  | w, [], _ => w
  | w, _ :: _, [] => w
  | w, i :: is, x :: xs => zq_put (w.set i x) is xs
theorem zq_put_fst : ∀ (is : List Nat) (w w1 : va_W), is.map (fun i => (w[i]?).map Prod.fst) = w1.map (fun q => some q.1) → (zq_put w is w1).map Prod.fst = w.map Prod.fst := by
  intro is
  induction is with
  | nil => intro w w1 _; rw [zq_put]
  | cons i is ih =>
    intro w w1 h
    cases w1 with
    | nil => rw [zq_put]
    | cons x xs =>
      simp only [List.map_cons, List.cons.injEq] at h
      obtain ⟨h1, h2⟩ := h
      have hset : (w.set i x).map Prod.fst = w.map Prod.fst := by
        apply List.ext_getElem?
        intro k
        rw [List.getElem?_map, List.getElem?_map, List.getElem?_set]
        by_cases e : i = k
        · subst e
          rw [if_pos rfl]
          by_cases hlt : i < w.length
          · rw [if_pos hlt, h1]; rfl
          · rw [if_neg hlt, List.getElem?_eq_none (by omega)]
        · rw [if_neg e]
      rw [zq_put, ih (w.set i x) xs ?_, hset]
      rw [← h2]
      apply List.map_congr_left
      intro k _
      rw [← List.getElem?_map, ← List.getElem?_map, hset]
theorem zq_D_fst {A : Nat → Prop} {w w' : va_W} (h : w'.map Prod.fst = w.map Prod.fst) (hD : va_D A w) : va_D A w' := by
  have key : ∀ (k : Nat) (q : Nat × va_E), w'[k]? = some q → ∃ q0, w[k]? = some q0 ∧ q0.1 = q.1 := by
    intro k q hq
    have h1 : (w'.map Prod.fst)[k]? = some q.1 := by rw [List.getElem?_map, hq]; rfl
    rw [h, List.getElem?_map] at h1
    cases hw : w[k]? with
    | none => rw [hw] at h1; cases h1
    | some q0 => rw [hw] at h1; exact ⟨q0, rfl, Option.some.inj h1⟩
  refine ⟨fun i j p q hi hj e => ?_, fun k q hk => ?_⟩
  · obtain ⟨p0, a1, a2⟩ := key i p hi
    obtain ⟨q0, b1, b2⟩ := key j q hj
    exact hD.1 i j p0 q0 a1 b1 (by rw [a2, b2]; exact e)
  · obtain ⟨q0, b1, b2⟩ := key k q hk
    rw [← b2]
    exact hD.2 k q0 b1
theorem zq_put_P {D : va_G} {cl : List vw_C} {H1 : Heap} : ∀ (is : List Nat) (w w1 : va_W), is.length ≤ w1.length → (∀ (k : Nat) (q : Nat × va_E), w[k]? = some q → k ∉ is → va_at D cl q H1) → (∀ (k : Nat) (q : Nat × va_E), w1[k]? = some q → va_at D cl q H1) → va_P D cl (zq_put w is w1) H1 := by
  intro is
  induction is with
  | nil => intro w w1 _ h1 _ k q hq; rw [zq_put] at hq; exact h1 k q hq (by simp)
  | cons i is ih =>
    intro w w1 hlen h1 h2
    cases w1 with
    | nil => simp at hlen
    | cons x xs =>
      rw [zq_put]
      refine ih (w.set i x) xs (by simpa using hlen) ?_ (fun k q hq => h2 (k + 1) q (by simpa using hq))
      intro k q hq hk
      rw [List.getElem?_set] at hq
      by_cases e : i = k
      · rw [if_pos e] at hq
        by_cases hlt : i < w.length
        · rw [if_pos hlt] at hq
          cases hq
          exact h2 0 x (by simp)
        · rw [if_neg hlt] at hq; cases hq
      · rw [if_neg e] at hq
        exact h1 k q hq (by simp [hk]; exact fun z => e z.symm)
/-- behind a call: the callee's cells, changed, stand in their places; the rest is as it was -/
theorem zq_jn {A0 : Nat → Prop} {D : va_G} {cl : List vw_C} {ws wc w1 : va_W} {H H1 : Heap} (hP : va_P D cl ws H) (hD : va_D A0 ws) (isC : List Nat) (hC : isC.map (fun i => ws[i]?) = wc.map some)
    (hk : ∀ q : Nat, q < H.size → ¬ va_A wc H.size q → H1[q]? = H[q]?) (hP1 : va_P D cl w1 H1) (ha : w1.map Prod.fst = wc.map Prod.fst) : va_P D cl (zq_put ws isC w1) H1 ∧ va_D A0 (zq_put ws isC w1) := by
  have hlen : isC.length = wc.length := by
    have := congrArg List.length hC
    simpa using this
  have hlen1 : w1.length = wc.length := by
    have := congrArg List.length ha
    simpa using this
  refine ⟨zq_put_P isC ws w1 (by omega) ?_ hP1, zq_D_fst (zq_put_fst isC ws w1 ?_) hD⟩
  · intro k q hq hkn
    have h0 := hP k q hq
    refine h0.kept (hk q.1 h0.lt ?_)
    rintro (⟨j, e, hj⟩ | h)
    · have h1 : (isC.map (fun i => ws[i]?))[j]? = some (some (q.1, e)) := by rw [hC, List.getElem?_map, hj]; rfl
      rw [List.getElem?_map] at h1
      cases hi : isC[j]? with
      | none => rw [hi] at h1; cases h1
      | some i =>
        rw [hi] at h1
        have h2 : ws[i]? = some (q.1, e) := Option.some.inj h1
        have h3 := hD.1 i k _ _ h2 hq rfl
        exact hkn (h3 ▸ List.mem_of_getElem? hi)
    · exact absurd h0.lt (by omega)
  · have h1 : isC.map (fun i => (ws[i]?).map Prod.fst) = (isC.map (fun i => ws[i]?)).map (fun o => o.map Prod.fst) := by rw [List.map_map]; rfl
    have h2 : w1.map (fun q => some q.1) = (w1.map Prod.fst).map some := by rw [List.map_map]; rfl
    rw [h1, h2, hC, ha, List.map_map, List.map_map]
    rfl
end
section
/-! the forms of the contracts: a method on cells w that it may change but neither makes nor moves; PF says of the answer and of the cells behind it what holds -/
def zq_isN : Cond → Bool
  | .fieldLinkNest .. => true
  | .methodLinkNest .. => true
  | _ => false
theorem zq_isN_on {w : Cond} (h : zq_isN w = true) : w.onTables = true := by
  cases w <;> first | rfl | cases h
theorem zq_nwW {w : Cond} {s U : State} (hw : zq_isN w = true) (hW : s.WarmedH U.vm) (h : va_Nw w s) : va_Nw w U := by
  cases w <;> first | exact va_Nw.warmF hW h | exact va_Nw.warmM hW h | cases hw
theorem zq_nws_ok : ∀ w ∈ zq_nws, zq_isN w = true := by decide +kernel
abbrev zq_tys (kT : Nat → ClassId) : List (ClassId × FieldType) := [(kT 0, .int), (kT 1, .long), (kT 2, .boolean), (kT 3, .byte)]
/-- what the tables give everywhere: classes, array classes, links to private members of nest mates -/
def zq_EV (D : va_G) (kT : Nat → ClassId) (U : State) : Prop := va_K D vwCl (zq_tys kT) U ∧ (∀ w ∈ zq_nws, va_Nw w U) ∧ ∀ x ∈ zq_strs, ∃ a, vk_R x.1 x.2.1 x.2.2 a U
theorem zq_EV.warm {D : va_G} {kT : Nat → ClassId} {s U : State} (hW : s.WarmedH U.vm) (h : zq_EV D kT s) : zq_EV D kT U :=
  ⟨va_K.moved hW.alike h.1, fun w hw => zq_nwW (zq_nws_ok w hw) hW (h.2.1 w hw), fun x hx => (h.2.2 x hx).elim fun a ha => ⟨a, vk_R.warm hW ha⟩⟩
theorem zq_EV.calling {D : va_G} {kT : Nat → ClassId} {U : State} {g : JFrame} {mk : MethodId} {a : Array Value} (h : zq_EV D kT U) : zq_EV D kT (U.calling g mk a) :=
  ⟨va_K.moved (u := U) (U := U.calling g mk a) (Vm.Alike.refl U.vm) h.1, fun w hw => va_Nw.same (u := U) (U := U.calling g mk a) (zq_isN_on (zq_nws_ok w hw)) rfl (h.2.1 w hw), fun x hx => (h.2.2 x hx).elim fun y hy => ⟨y, vk_R.same (u := U) (U := U.calling g mk a) rfl hy⟩⟩
theorem zq_EV.nw {D : va_G} {kT : Nat → ClassId} {U : State} (h : zq_EV D kT U) {w : Cond} (hw : w ∈ zq_nws) {a : Array Value} : w.before a U = true := va_Nw.use (zq_isN_on (zq_nws_ok w hw)) (h.2.1 w hw)
def zq_CP (D : va_G) (kT : Nat → ClassId) (sz : Nat) (w : va_W) (U : State) : Prop := U.heap.size = sz ∧ va_P D vwCl w U.heap ∧ zq_EV D kT U ∧ va_D (fun _ => True) w
theorem zq_CP.blind {D : va_G} {kT : Nat → ClassId} {sz : Nat} {w : va_W} {av : List Value} : FrameBlind (va_Pc av (zq_CP D kT sz w)) := by
  intro a U g mk q
  obtain ⟨q0, q1, qP, qE, qD⟩ := q
  exact ⟨q0, q1, qP, qE.calling, qD⟩
def zq_WB (D : va_G) (adl : List Nat) (w' : va_W) (t : State) : Prop := va_P D vwCl w' t.heap ∧ w'.map Prod.fst = adl
theorem zq_pre {D : va_G} {kT : Nat → ClassId} {w wc : va_W} {A : Nat → Prop} {s : State} {H : Heap} {av : List Value} (hE : zq_EV D kT s) (hP : va_P D vwCl w H) (hD : va_D A w) (isC : List Nat) (hC : isC.map (fun i => w[i]?) = wc.map some) (hnd : va_nd isC = true) :
    ∀ U : State, U.heap = H → s.WarmedH U.vm → va_Pc av (zq_CP D kT H.size wc) av.toArray U := by
  intro U hU hW
  have hf : isC.filterMap (fun i => w[i]?) = wc := by
    have h1 : isC.filterMap (fun i => w[i]?) = (isC.map (fun i => w[i]?)).filterMap id := by rw [List.filterMap_map]; rfl
    rw [h1, hC]
    simp
  refine ⟨rfl, by rw [hU], by rw [hU]; exact hP.sub isC hf, hE.warm hW, (hD.sub isC hnd hC).weaken (fun _ _ _ _ => trivial)⟩

/-- behind a call: any world w2 that has the callee's cells, changed, in their places and the others as they were -/
theorem zq_j2 {A0 : Nat → Prop} {D : va_G} {cl : List vw_C} {ws wc w1 wr : va_W} {adl : List Nat} {H H1 : Heap} (hP : va_P D cl ws H) (hD : va_D A0 ws) (isC isR : List Nat) (n0 : Nat) (hlen : ws.length = n0) (hcov : ∀ k, k < n0 → k ∈ isC ∨ k ∈ isR) (hC : isC.map (fun i => ws[i]?) = wc.map some) (hR : isR.map (fun i => ws[i]?) = wr.map some) (hadl : ws.map Prod.fst = adl)
    (hk : ∀ q : Nat, q < H.size → ¬ va_A wc H.size q → H1[q]? = H[q]?) (hP1 : va_P D cl w1 H1) (w2 : va_W) (h1 : isC.map (fun i => w2[i]?) = w1.map some) (h2 : isR.map (fun i => w2[i]?) = wr.map some) (h3 : w2.map Prod.fst = adl) : va_P D cl w2 H1 ∧ va_D A0 w2 := by
  rw [← hR] at h2
  rw [← hadl] at h3
  refine ⟨fun k q hq => ?_, zq_D_fst h3 hD⟩
  have hl2 : w2.length = n0 := by
    have := congrArg List.length h3
    simp at this
    omega
  have hkn : k < n0 := by rw [← hl2]; exact (List.getElem?_eq_some_iff.mp hq).1
  by_cases hin : k ∈ isC
  · obtain ⟨j, hj⟩ := List.getElem?_of_mem hin
    have e1 : (isC.map (fun i => w2[i]?))[j]? = some (some q) := by rw [List.getElem?_map, hj]; simp [hq]
    rw [h1, List.getElem?_map] at e1
    cases hw : w1[j]? with
    | none => rw [hw] at e1; cases e1
    | some q1 =>
      rw [hw] at e1
      have : q1 = q := Option.some.inj (Option.some.inj e1)
      exact hP1 j q (this ▸ hw)
  · have hr : k ∈ isR := (hcov k hkn).resolve_left hin
    obtain ⟨j, hj⟩ := List.getElem?_of_mem hr
    have e1 : (isR.map (fun i => w2[i]?))[j]? = some (some q) := by rw [List.getElem?_map, hj]; simp [hq]
    rw [h2, List.getElem?_map, hj] at e1
    have hq0 : ws[k]? = some q := Option.some.inj e1
    have h0 := hP k q hq0
    refine h0.kept (hk q.1 h0.lt ?_)
    rintro (⟨i, e, hi⟩ | h)
    · have e2 : (isC.map (fun i => ws[i]?))[i]? = some (some (q.1, e)) := by rw [hC, List.getElem?_map, hi]; rfl
      rw [List.getElem?_map] at e2
      cases hi2 : isC[i]? with
      | none => rw [hi2] at e2; cases e2
      | some i2 =>
        rw [hi2] at e2
        have h4 : ws[i2]? = some (q.1, e) := Option.some.inj e2
        have h5 := hD.1 i2 k _ _ h4 hq0 rfl
        exact hin (h5 ▸ List.mem_of_getElem? hi2)
    · exact absurd h0.lt (by omega)

def zq_Mi (l : Launch) (y : MethodName) (ws : List Cond) (rm : Room) (D : va_G) (kT : Nat → ClassId) (av : List Value) (w : va_W) (PF : Int32 → va_W → Prop) : Prop := ∀ sz : Nat, Met l y ws rm (va_Pc av (zq_CP D kT sz w)) (va_Qi PF (zq_WB D (w.map Prod.fst)) (va_A w sz)) 0 0 (va_A w sz)
theorem zq_Mi_of {l : Launch} {y : MethodName} {ws : List Cond} {rm : Room} {D : va_G} {kT : Nat → ClassId} {av : List Value} {w : va_W} {PF : Int32 → va_W → Prop} {cc : ByteArray} {maxL : Nat} {own : String} {adl : List Nat} (hadl : w.map Prod.fst = adl)
    (hy : plainName y.cls = true) (hw : ws = Cond.code y cc maxL (some .int) :: zq_W) (ho : y.cls = own) (hav : (lg_sl av).length ≤ maxL)
    (body : ∀ (p : Program) (e : Env) (s : State) (m : MethodId) (AV : Array Value) (below : List Frame) (meth : Method) (c : Code) (A : Nat → Prop) (QQ : State → Prop) (H : Heap) (locs : List Loc) (ls : Array Slot),
      p.tables.exec = Jvm.exec → c.code = cc → c.maxLocals = maxL → s.vm.findClass own = some m.cls → (∀ w ∈ zq_W, w.before AV s = true) → zq_EV D kT s → (∀ q : Nat, s.heap.size ≤ q → A q) →
      (∀ (r : Int32) (w' : va_W) (H : Heap) (locs : List Loc) (pc : Nat) (ls : Array Slot), PF r w' → va_P D vwCl w' H → w'.map Prod.fst = adl → va_S A s.heap H locs → decode cc pc = .ok (.ireturn, 1) → W p l e rm s m AV below meth c H locs 0 0 QQ (F0 m pc ls [.int r])) →
      va_P D vwCl w H → va_D A w → va_S A s.heap H locs → lv_has ls maxL (lv_args 0 av) → W p l e rm s m AV below meth c H locs 0 0 QQ (F0 m 0 ls [])) : zq_Mi l y ws rm D kT av w PF := by
  intro sz
  refine Met.ofW (cc := cc) (maxL := maxL) (ret := (some .int)) hy hw ?_
  intro p e s m args below meth c s₁ B hml hv
  obtain ⟨rfl, hsz, hP, hE, hD0⟩ := hv
  subst hsz
  have hr := B.returns
  have hlocks := B.notSynchronized
  rw [lg_entry_eq]
  refine body p e s m _ below meth c (va_A w s.heap.size) _ s.heap [] _ B.exec B.bytes hml (by rw [← ho]; exact findClass_of_methodNamed B.named) (fun w h => atoms_spec (ws := ws) B.pre w (by rw [hw]; exact List.mem_cons_of_mem _ h)) hE (fun q h => Or.inr h) ?_ hP hD0.self va_S.rf (lv_entry av hav)
  intro r w' H locs pc ls hpf hP' ha hS hd
  exact W.iret B.exec B.bytes hr (fun t ht hW => ⟨⟨r, w', rfl, hpf, by rw [ht]; exact hP', by rw [hadl]; exact ha⟩, hS.F ht⟩) hS.2.2 hd
theorem zq_Mz_of {l : Launch} {y : MethodName} {ws : List Cond} {rm : Room} {D : va_G} {kT : Nat → ClassId} {av : List Value} {w : va_W} {PF : Int32 → va_W → Prop} {cc : ByteArray} {maxL : Nat} {own : String} {adl : List Nat} (hadl : w.map Prod.fst = adl)
    (hy : plainName y.cls = true) (hw : ws = Cond.code y cc maxL (some .boolean) :: zq_W) (ho : y.cls = own) (hav : (lg_sl av).length ≤ maxL)
    (body : ∀ (p : Program) (e : Env) (s : State) (m : MethodId) (AV : Array Value) (below : List Frame) (meth : Method) (c : Code) (A : Nat → Prop) (QQ : State → Prop) (H : Heap) (locs : List Loc) (ls : Array Slot),
      p.tables.exec = Jvm.exec → c.code = cc → c.maxLocals = maxL → s.vm.findClass own = some m.cls → (∀ w ∈ zq_W, w.before AV s = true) → zq_EV D kT s → (∀ q : Nat, s.heap.size ≤ q → A q) →
      (∀ (r : Int32) (_ : narrow .boolean (.int r) = .int r) (w' : va_W) (H : Heap) (locs : List Loc) (pc : Nat) (ls : Array Slot), PF r w' → va_P D vwCl w' H → w'.map Prod.fst = adl → va_S A s.heap H locs → decode cc pc = .ok (.ireturn, 1) → W p l e rm s m AV below meth c H locs 0 0 QQ (F0 m pc ls [.int r])) →
      va_P D vwCl w H → va_D A w → va_S A s.heap H locs → lv_has ls maxL (lv_args 0 av) → W p l e rm s m AV below meth c H locs 0 0 QQ (F0 m 0 ls [])) : zq_Mi l y ws rm D kT av w PF := by
  intro sz
  refine Met.ofW (cc := cc) (maxL := maxL) (ret := (some .boolean)) hy hw ?_
  intro p e s m args below meth c s₁ B hml hv
  obtain ⟨rfl, hsz, hP, hE, hD0⟩ := hv
  subst hsz
  have hr := B.returns
  have hlocks := B.notSynchronized
  rw [lg_entry_eq]
  refine body p e s m _ below meth c (va_A w s.heap.size) _ s.heap [] _ B.exec B.bytes hml (by rw [← ho]; exact findClass_of_methodNamed B.named) (fun w h => atoms_spec (ws := ws) B.pre w (by rw [hw]; exact List.mem_cons_of_mem _ h)) hE (fun q h => Or.inr h) ?_ hP hD0.self va_S.rf (lv_entry av hav)
  intro r hn w' H locs pc ls hpf hP' ha hS hd
  exact W.zret B.exec B.bytes hr hn (fun t ht hW => ⟨⟨r, w', rfl, hpf, by rw [ht]; exact hP', by rw [hadl]; exact ha⟩, hS.F ht⟩) hS.2.2 hd
theorem zq_c_Vi {p : Program} {l : Launch} {e : Env} {R : Room} {s : State} {m : MethodId} {AV : Array Value} {below : List Frame} {meth : Method} {c : Code} {H : Heap} {locs : List Loc} {cells slots : Nat} {Q : State → Prop} {y : MethodName} {wsY : List Cond} {rmY : Room} {bytes cc : ByteArray} {maxL nL n index pc : Nat} {ret : Option FieldType} {Ts : List Cond} {own C : String} {b : Addr} {As rest st0 : List Value} {ls : Array Slot} {D : va_G} {kT : Nat → ClassId} {w wc wr : va_W} {adl : List Nat} {A : Nat → Prop} {PF : Int32 → va_W → Prop}
    (S : CallFix p m c cc nL s AV Ts own) (hM : zq_Mi l y wsY rmY D kT (.ref b :: As) wc PF) (cw : CallW R s AV own C index y bytes maxL ret wsY rmY 0 0 n) (hE : zq_EV D kT s) (hP : va_P D vwCl w H) (hD : va_D A w) (hS : va_S A s.heap H locs) (hA : ∀ q : Nat, s.heap.size ≤ q → A q)
    (isC isR : List Nat) (n0 : Nat) (hC : isC.map (fun i => w[i]?) = wc.map some) (hnd : va_nd isC = true) (hlen : w.length = n0) (hcov : ∀ k, k < n0 → k ∈ isC ∨ k ∈ isR) (hR : isR.map (fun i => w[i]?) = wr.map some) (hadl : w.map Prod.fst = adl) (q0 : Nat) {ci : Nat} {fs : List Value} {qc : vw_C} (hr0 : wc[q0]? = some (b, .inr (ci, fs))) (hcl : vwCl[ci]? = some qc) (hqc : qc.1 = C) (hn : As.length = n) (hsize : ls.size = nL) (hroom : (rest.map fun v => v.category).sum ≤ 8) (hst : st0 = As.reverse ++ .ref b :: rest) (hdg : decode cc pc = .ok (.invokevirtual index, 3)) (hf : cells + 0 ≤ R.cells ∧ slots + 0 ≤ R.slots)
    (kk : ∀ (r : Int32) (w1 : va_W) (H1 : Heap) (locs1 : List Loc), PF r w1 → (∀ w2 : va_W, isC.map (fun i => w2[i]?) = w1.map some → isR.map (fun i => w2[i]?) = wr.map some → w2.map Prod.fst = adl → va_P D vwCl w2 H1 ∧ va_D A w2) → va_S A s.heap H1 locs1 → W p l e R s m AV below meth c H1 locs1 cells slots Q (F0 m (pc + 3) ls (.int r :: rest))) :
    W p l e R s m AV below meth c H locs cells slots Q (F0 m pc ls st0) := by
  subst hst
  have hf2 : isC.filterMap (fun i => w[i]?) = wc := by
    have h1 : isC.filterMap (fun i => w[i]?) = (isC.map (fun i => w[i]?)).filterMap id := by rw [List.filterMap_map]; rfl
    rw [h1, hC]
    simp
  have hPc : va_P D vwCl wc H := hP.sub isC hf2
  have hFc := va_free (wc := wc) hD hS hA isC hC
  refine va_calli (va_runV (rest := rest) S (hM H.size) cw ⟨zq_CP.blind, by rw [← hqc]; exact va_recv (hE.1) hPc hcl hr0, zq_pre hE hP hD isC hC hnd⟩ rfl hn hsize rfl (lv_room hroom) hdg hf) hS (fun q _ h => hFc q h) hFc (fun r w1 t H1 locs1 ht hvm hw hB hz1 hk1 hS1 => ?_)
  obtain ⟨hP1, ha⟩ := hB
  rw [ht] at hP1
  exact kk r w1 H1 locs1 hw (zq_j2 hP hD isC isR n0 hlen hcov hC hR hadl hk1 hP1) hS1
theorem zq_c_Si {p : Program} {l : Launch} {e : Env} {R : Room} {s : State} {m : MethodId} {AV : Array Value} {below : List Frame} {meth : Method} {c : Code} {H : Heap} {locs : List Loc} {cells slots : Nat} {Q : State → Prop} {y : MethodName} {wsY : List Cond} {rmY : Room} {bytes cc : ByteArray} {maxL nL n index pc : Nat} {ret : Option FieldType} {Ts : List Cond} {own : String} {As rest st0 : List Value} {ls : Array Slot} {D : va_G} {kT : Nat → ClassId} {w wc wr : va_W} {adl : List Nat} {A : Nat → Prop} {PF : Int32 → va_W → Prop}
    (S : CallFix p m c cc nL s AV Ts own) (hM : zq_Mi l y wsY rmY D kT As wc PF) (cw : CallB R s AV own index y bytes maxL ret wsY rmY 0 0 n ∧ (Cond.static y).before AV s = true) (hE : zq_EV D kT s) (hP : va_P D vwCl w H) (hD : va_D A w) (hS : va_S A s.heap H locs) (hA : ∀ q : Nat, s.heap.size ≤ q → A q)
    (isC isR : List Nat) (n0 : Nat) (hC : isC.map (fun i => w[i]?) = wc.map some) (hnd : va_nd isC = true) (hlen : w.length = n0) (hcov : ∀ k, k < n0 → k ∈ isC ∨ k ∈ isR) (hR : isR.map (fun i => w[i]?) = wr.map some) (hadl : w.map Prod.fst = adl) (hn : As.length = n) (hsize : ls.size = nL) (hroom : (rest.map fun v => v.category).sum ≤ 8) (hst : st0 = As.reverse ++ rest) (hdg : decode cc pc = .ok (.invokestatic index, 3)) (hf : cells + 0 ≤ R.cells ∧ slots + 0 ≤ R.slots)
    (kk : ∀ (r : Int32) (w1 : va_W) (H1 : Heap) (locs1 : List Loc), PF r w1 → (∀ w2 : va_W, isC.map (fun i => w2[i]?) = w1.map some → isR.map (fun i => w2[i]?) = wr.map some → w2.map Prod.fst = adl → va_P D vwCl w2 H1 ∧ va_D A w2) → va_S A s.heap H1 locs1 → W p l e R s m AV below meth c H1 locs1 cells slots Q (F0 m (pc + 3) ls (.int r :: rest))) :
    W p l e R s m AV below meth c H locs cells slots Q (F0 m pc ls st0) := by
  subst hst
  have hf2 : isC.filterMap (fun i => w[i]?) = wc := by
    have h1 : isC.filterMap (fun i => w[i]?) = (isC.map (fun i => w[i]?)).filterMap id := by rw [List.filterMap_map]; rfl
    rw [h1, hC]
    simp
  have hPc : va_P D vwCl wc H := hP.sub isC hf2
  have hFc := va_free (wc := wc) hD hS hA isC hC
  refine va_calli (va_runS (rest := rest) S (hM H.size) cw ⟨zq_CP.blind, zq_pre hE hP hD isC hC hnd⟩ rfl hn hsize rfl (lv_room hroom) hdg hf) hS (fun q _ h => hFc q h) hFc (fun r w1 t H1 locs1 ht hvm hw hB hz1 hk1 hS1 => ?_)
  obtain ⟨hP1, ha⟩ := hB
  rw [ht] at hP1
  exact kk r w1 H1 locs1 hw (zq_j2 hP hD isC isR n0 hlen hcov hC hR hadl hk1 hP1) hS1
def zq_Ml (l : Launch) (y : MethodName) (ws : List Cond) (rm : Room) (D : va_G) (kT : Nat → ClassId) (av : List Value) (w : va_W) (PF : Int64 → va_W → Prop) : Prop := ∀ sz : Nat, Met l y ws rm (va_Pc av (zq_CP D kT sz w)) (va_Ql PF (zq_WB D (w.map Prod.fst)) (va_A w sz)) 0 0 (va_A w sz)
theorem zq_Ml_of {l : Launch} {y : MethodName} {ws : List Cond} {rm : Room} {D : va_G} {kT : Nat → ClassId} {av : List Value} {w : va_W} {PF : Int64 → va_W → Prop} {cc : ByteArray} {maxL : Nat} {own : String} {adl : List Nat} (hadl : w.map Prod.fst = adl)
    (hy : plainName y.cls = true) (hw : ws = Cond.code y cc maxL (some .long) :: zq_W) (ho : y.cls = own) (hav : (lg_sl av).length ≤ maxL)
    (body : ∀ (p : Program) (e : Env) (s : State) (m : MethodId) (AV : Array Value) (below : List Frame) (meth : Method) (c : Code) (A : Nat → Prop) (QQ : State → Prop) (H : Heap) (locs : List Loc) (ls : Array Slot),
      p.tables.exec = Jvm.exec → c.code = cc → c.maxLocals = maxL → s.vm.findClass own = some m.cls → (∀ w ∈ zq_W, w.before AV s = true) → zq_EV D kT s → (∀ q : Nat, s.heap.size ≤ q → A q) →
      (∀ (r : Int64) (w' : va_W) (H : Heap) (locs : List Loc) (pc : Nat) (ls : Array Slot), PF r w' → va_P D vwCl w' H → w'.map Prod.fst = adl → va_S A s.heap H locs → decode cc pc = .ok (.lreturn, 1) → W p l e rm s m AV below meth c H locs 0 0 QQ (F0 m pc ls [.long r])) →
      va_P D vwCl w H → va_D A w → va_S A s.heap H locs → lv_has ls maxL (lv_args 0 av) → W p l e rm s m AV below meth c H locs 0 0 QQ (F0 m 0 ls [])) : zq_Ml l y ws rm D kT av w PF := by
  intro sz
  refine Met.ofW (cc := cc) (maxL := maxL) (ret := (some .long)) hy hw ?_
  intro p e s m args below meth c s₁ B hml hv
  obtain ⟨rfl, hsz, hP, hE, hD0⟩ := hv
  subst hsz
  have hr := B.returns
  have hlocks := B.notSynchronized
  rw [lg_entry_eq]
  refine body p e s m _ below meth c (va_A w s.heap.size) _ s.heap [] _ B.exec B.bytes hml (by rw [← ho]; exact findClass_of_methodNamed B.named) (fun w h => atoms_spec (ws := ws) B.pre w (by rw [hw]; exact List.mem_cons_of_mem _ h)) hE (fun q h => Or.inr h) ?_ hP hD0.self va_S.rf (lv_entry av hav)
  intro r w' H locs pc ls hpf hP' ha hS hd
  exact W.lret B.exec B.bytes hr (fun t ht hW => ⟨⟨r, w', rfl, hpf, by rw [ht]; exact hP', by rw [hadl]; exact ha⟩, hS.F ht⟩) hS.2.2 hd
theorem zq_c_Vl {p : Program} {l : Launch} {e : Env} {R : Room} {s : State} {m : MethodId} {AV : Array Value} {below : List Frame} {meth : Method} {c : Code} {H : Heap} {locs : List Loc} {cells slots : Nat} {Q : State → Prop} {y : MethodName} {wsY : List Cond} {rmY : Room} {bytes cc : ByteArray} {maxL nL n index pc : Nat} {ret : Option FieldType} {Ts : List Cond} {own C : String} {b : Addr} {As rest st0 : List Value} {ls : Array Slot} {D : va_G} {kT : Nat → ClassId} {w wc wr : va_W} {adl : List Nat} {A : Nat → Prop} {PF : Int64 → va_W → Prop}
    (S : CallFix p m c cc nL s AV Ts own) (hM : zq_Ml l y wsY rmY D kT (.ref b :: As) wc PF) (cw : CallW R s AV own C index y bytes maxL ret wsY rmY 0 0 n) (hE : zq_EV D kT s) (hP : va_P D vwCl w H) (hD : va_D A w) (hS : va_S A s.heap H locs) (hA : ∀ q : Nat, s.heap.size ≤ q → A q)
    (isC isR : List Nat) (n0 : Nat) (hC : isC.map (fun i => w[i]?) = wc.map some) (hnd : va_nd isC = true) (hlen : w.length = n0) (hcov : ∀ k, k < n0 → k ∈ isC ∨ k ∈ isR) (hR : isR.map (fun i => w[i]?) = wr.map some) (hadl : w.map Prod.fst = adl) (q0 : Nat) {ci : Nat} {fs : List Value} {qc : vw_C} (hr0 : wc[q0]? = some (b, .inr (ci, fs))) (hcl : vwCl[ci]? = some qc) (hqc : qc.1 = C) (hn : As.length = n) (hsize : ls.size = nL) (hroom : (rest.map fun v => v.category).sum ≤ 8) (hst : st0 = As.reverse ++ .ref b :: rest) (hdg : decode cc pc = .ok (.invokevirtual index, 3)) (hf : cells + 0 ≤ R.cells ∧ slots + 0 ≤ R.slots)
    (kk : ∀ (r : Int64) (w1 : va_W) (H1 : Heap) (locs1 : List Loc), PF r w1 → (∀ w2 : va_W, isC.map (fun i => w2[i]?) = w1.map some → isR.map (fun i => w2[i]?) = wr.map some → w2.map Prod.fst = adl → va_P D vwCl w2 H1 ∧ va_D A w2) → va_S A s.heap H1 locs1 → W p l e R s m AV below meth c H1 locs1 cells slots Q (F0 m (pc + 3) ls (.long r :: rest))) :
    W p l e R s m AV below meth c H locs cells slots Q (F0 m pc ls st0) := by
  subst hst
  have hf2 : isC.filterMap (fun i => w[i]?) = wc := by
    have h1 : isC.filterMap (fun i => w[i]?) = (isC.map (fun i => w[i]?)).filterMap id := by rw [List.filterMap_map]; rfl
    rw [h1, hC]
    simp
  have hPc : va_P D vwCl wc H := hP.sub isC hf2
  have hFc := va_free (wc := wc) hD hS hA isC hC
  refine va_calll (va_runV (rest := rest) S (hM H.size) cw ⟨zq_CP.blind, by rw [← hqc]; exact va_recv (hE.1) hPc hcl hr0, zq_pre hE hP hD isC hC hnd⟩ rfl hn hsize rfl (lv_room hroom) hdg hf) hS (fun q _ h => hFc q h) hFc (fun r w1 t H1 locs1 ht hvm hw hB hz1 hk1 hS1 => ?_)
  obtain ⟨hP1, ha⟩ := hB
  rw [ht] at hP1
  exact kk r w1 H1 locs1 hw (zq_j2 hP hD isC isR n0 hlen hcov hC hR hadl hk1 hP1) hS1
theorem zq_c_Sl {p : Program} {l : Launch} {e : Env} {R : Room} {s : State} {m : MethodId} {AV : Array Value} {below : List Frame} {meth : Method} {c : Code} {H : Heap} {locs : List Loc} {cells slots : Nat} {Q : State → Prop} {y : MethodName} {wsY : List Cond} {rmY : Room} {bytes cc : ByteArray} {maxL nL n index pc : Nat} {ret : Option FieldType} {Ts : List Cond} {own : String} {As rest st0 : List Value} {ls : Array Slot} {D : va_G} {kT : Nat → ClassId} {w wc wr : va_W} {adl : List Nat} {A : Nat → Prop} {PF : Int64 → va_W → Prop}
    (S : CallFix p m c cc nL s AV Ts own) (hM : zq_Ml l y wsY rmY D kT As wc PF) (cw : CallB R s AV own index y bytes maxL ret wsY rmY 0 0 n ∧ (Cond.static y).before AV s = true) (hE : zq_EV D kT s) (hP : va_P D vwCl w H) (hD : va_D A w) (hS : va_S A s.heap H locs) (hA : ∀ q : Nat, s.heap.size ≤ q → A q)
    (isC isR : List Nat) (n0 : Nat) (hC : isC.map (fun i => w[i]?) = wc.map some) (hnd : va_nd isC = true) (hlen : w.length = n0) (hcov : ∀ k, k < n0 → k ∈ isC ∨ k ∈ isR) (hR : isR.map (fun i => w[i]?) = wr.map some) (hadl : w.map Prod.fst = adl) (hn : As.length = n) (hsize : ls.size = nL) (hroom : (rest.map fun v => v.category).sum ≤ 8) (hst : st0 = As.reverse ++ rest) (hdg : decode cc pc = .ok (.invokestatic index, 3)) (hf : cells + 0 ≤ R.cells ∧ slots + 0 ≤ R.slots)
    (kk : ∀ (r : Int64) (w1 : va_W) (H1 : Heap) (locs1 : List Loc), PF r w1 → (∀ w2 : va_W, isC.map (fun i => w2[i]?) = w1.map some → isR.map (fun i => w2[i]?) = wr.map some → w2.map Prod.fst = adl → va_P D vwCl w2 H1 ∧ va_D A w2) → va_S A s.heap H1 locs1 → W p l e R s m AV below meth c H1 locs1 cells slots Q (F0 m (pc + 3) ls (.long r :: rest))) :
    W p l e R s m AV below meth c H locs cells slots Q (F0 m pc ls st0) := by
  subst hst
  have hf2 : isC.filterMap (fun i => w[i]?) = wc := by
    have h1 : isC.filterMap (fun i => w[i]?) = (isC.map (fun i => w[i]?)).filterMap id := by rw [List.filterMap_map]; rfl
    rw [h1, hC]
    simp
  have hPc : va_P D vwCl wc H := hP.sub isC hf2
  have hFc := va_free (wc := wc) hD hS hA isC hC
  refine va_calll (va_runS (rest := rest) S (hM H.size) cw ⟨zq_CP.blind, zq_pre hE hP hD isC hC hnd⟩ rfl hn hsize rfl (lv_room hroom) hdg hf) hS (fun q _ h => hFc q h) hFc (fun r w1 t H1 locs1 ht hvm hw hB hz1 hk1 hS1 => ?_)
  obtain ⟨hP1, ha⟩ := hB
  rw [ht] at hP1
  exact kk r w1 H1 locs1 hw (zq_j2 hP hD isC isR n0 hlen hcov hC hR hadl hk1 hP1) hS1
def zq_Mv (l : Launch) (y : MethodName) (ws : List Cond) (rm : Room) (D : va_G) (kT : Nat → ClassId) (av : List Value) (w : va_W) (PF : va_W → Prop) : Prop := ∀ sz : Nat, Met l y ws rm (va_Pc av (zq_CP D kT sz w)) (va_Qv PF (zq_WB D (w.map Prod.fst)) (va_A w sz)) 0 0 (va_A w sz)
theorem zq_Mv_of {l : Launch} {y : MethodName} {ws : List Cond} {rm : Room} {D : va_G} {kT : Nat → ClassId} {av : List Value} {w : va_W} {PF : va_W → Prop} {cc : ByteArray} {maxL : Nat} {own : String} {adl : List Nat} (hadl : w.map Prod.fst = adl)
    (hy : plainName y.cls = true) (hw : ws = Cond.code y cc maxL none :: zq_W) (ho : y.cls = own) (hav : (lg_sl av).length ≤ maxL)
    (body : ∀ (p : Program) (e : Env) (s : State) (m : MethodId) (AV : Array Value) (below : List Frame) (meth : Method) (c : Code) (A : Nat → Prop) (QQ : State → Prop) (H : Heap) (locs : List Loc) (ls : Array Slot),
      p.tables.exec = Jvm.exec → c.code = cc → c.maxLocals = maxL → s.vm.findClass own = some m.cls → (∀ w ∈ zq_W, w.before AV s = true) → zq_EV D kT s → (∀ q : Nat, s.heap.size ≤ q → A q) →
      (∀ (w' : va_W) (H : Heap) (locs : List Loc) (pc : Nat) (ls : Array Slot), PF w' → va_P D vwCl w' H → w'.map Prod.fst = adl → va_S A s.heap H locs → decode cc pc = .ok (.return_, 1) → W p l e rm s m AV below meth c H locs 0 0 QQ (F0 m pc ls [])) →
      va_P D vwCl w H → va_D A w → va_S A s.heap H locs → lv_has ls maxL (lv_args 0 av) → W p l e rm s m AV below meth c H locs 0 0 QQ (F0 m 0 ls [])) : zq_Mv l y ws rm D kT av w PF := by
  intro sz
  refine Met.ofW (cc := cc) (maxL := maxL) (ret := none) hy hw ?_
  intro p e s m args below meth c s₁ B hml hv
  obtain ⟨rfl, hsz, hP, hE, hD0⟩ := hv
  subst hsz
  have hr := B.returns
  have hlocks := B.notSynchronized
  rw [lg_entry_eq]
  refine body p e s m _ below meth c (va_A w s.heap.size) _ s.heap [] _ B.exec B.bytes hml (by rw [← ho]; exact findClass_of_methodNamed B.named) (fun w h => atoms_spec (ws := ws) B.pre w (by rw [hw]; exact List.mem_cons_of_mem _ h)) hE (fun q h => Or.inr h) ?_ hP hD0.self va_S.rf (lv_entry av hav)
  intro w' H locs pc ls hpf hP' ha hS hd
  exact W.vret B.exec B.bytes hr (fun t ht hW => ⟨⟨w', rfl, hpf, by rw [ht]; exact hP', by rw [hadl]; exact ha⟩, hS.F ht⟩) hS.2.2 hd
theorem zq_c_Vv {p : Program} {l : Launch} {e : Env} {R : Room} {s : State} {m : MethodId} {AV : Array Value} {below : List Frame} {meth : Method} {c : Code} {H : Heap} {locs : List Loc} {cells slots : Nat} {Q : State → Prop} {y : MethodName} {wsY : List Cond} {rmY : Room} {bytes cc : ByteArray} {maxL nL n index pc : Nat} {ret : Option FieldType} {Ts : List Cond} {own C : String} {b : Addr} {As rest st0 : List Value} {ls : Array Slot} {D : va_G} {kT : Nat → ClassId} {w wc wr : va_W} {adl : List Nat} {A : Nat → Prop} {PF : va_W → Prop}
    (S : CallFix p m c cc nL s AV Ts own) (hM : zq_Mv l y wsY rmY D kT (.ref b :: As) wc PF) (cw : CallW R s AV own C index y bytes maxL ret wsY rmY 0 0 n) (hE : zq_EV D kT s) (hP : va_P D vwCl w H) (hD : va_D A w) (hS : va_S A s.heap H locs) (hA : ∀ q : Nat, s.heap.size ≤ q → A q)
    (isC isR : List Nat) (n0 : Nat) (hC : isC.map (fun i => w[i]?) = wc.map some) (hnd : va_nd isC = true) (hlen : w.length = n0) (hcov : ∀ k, k < n0 → k ∈ isC ∨ k ∈ isR) (hR : isR.map (fun i => w[i]?) = wr.map some) (hadl : w.map Prod.fst = adl) (q0 : Nat) {ci : Nat} {fs : List Value} {qc : vw_C} (hr0 : wc[q0]? = some (b, .inr (ci, fs))) (hcl : vwCl[ci]? = some qc) (hqc : qc.1 = C) (hn : As.length = n) (hsize : ls.size = nL) (hroom : (rest.map fun v => v.category).sum ≤ 8) (hst : st0 = As.reverse ++ .ref b :: rest) (hdg : decode cc pc = .ok (.invokevirtual index, 3)) (hf : cells + 0 ≤ R.cells ∧ slots + 0 ≤ R.slots)
    (kk : ∀ (w1 : va_W) (H1 : Heap) (locs1 : List Loc), PF w1 → (∀ w2 : va_W, isC.map (fun i => w2[i]?) = w1.map some → isR.map (fun i => w2[i]?) = wr.map some → w2.map Prod.fst = adl → va_P D vwCl w2 H1 ∧ va_D A w2) → va_S A s.heap H1 locs1 → W p l e R s m AV below meth c H1 locs1 cells slots Q (F0 m (pc + 3) ls (rest))) :
    W p l e R s m AV below meth c H locs cells slots Q (F0 m pc ls st0) := by
  subst hst
  have hf2 : isC.filterMap (fun i => w[i]?) = wc := by
    have h1 : isC.filterMap (fun i => w[i]?) = (isC.map (fun i => w[i]?)).filterMap id := by rw [List.filterMap_map]; rfl
    rw [h1, hC]
    simp
  have hPc : va_P D vwCl wc H := hP.sub isC hf2
  have hFc := va_free (wc := wc) hD hS hA isC hC
  refine va_callv (va_runV (rest := rest) S (hM H.size) cw ⟨zq_CP.blind, by rw [← hqc]; exact va_recv (hE.1) hPc hcl hr0, zq_pre hE hP hD isC hC hnd⟩ rfl hn hsize rfl (lv_room hroom) hdg hf) hS (fun q _ h => hFc q h) hFc (fun w1 t H1 locs1 ht hvm hw hB hz1 hk1 hS1 => ?_)
  obtain ⟨hP1, ha⟩ := hB
  rw [ht] at hP1
  exact kk w1 H1 locs1 hw (zq_j2 hP hD isC isR n0 hlen hcov hC hR hadl hk1 hP1) hS1
theorem zq_c_Sv {p : Program} {l : Launch} {e : Env} {R : Room} {s : State} {m : MethodId} {AV : Array Value} {below : List Frame} {meth : Method} {c : Code} {H : Heap} {locs : List Loc} {cells slots : Nat} {Q : State → Prop} {y : MethodName} {wsY : List Cond} {rmY : Room} {bytes cc : ByteArray} {maxL nL n index pc : Nat} {ret : Option FieldType} {Ts : List Cond} {own : String} {As rest st0 : List Value} {ls : Array Slot} {D : va_G} {kT : Nat → ClassId} {w wc wr : va_W} {adl : List Nat} {A : Nat → Prop} {PF : va_W → Prop}
    (S : CallFix p m c cc nL s AV Ts own) (hM : zq_Mv l y wsY rmY D kT As wc PF) (cw : CallB R s AV own index y bytes maxL ret wsY rmY 0 0 n ∧ (Cond.static y).before AV s = true) (hE : zq_EV D kT s) (hP : va_P D vwCl w H) (hD : va_D A w) (hS : va_S A s.heap H locs) (hA : ∀ q : Nat, s.heap.size ≤ q → A q)
    (isC isR : List Nat) (n0 : Nat) (hC : isC.map (fun i => w[i]?) = wc.map some) (hnd : va_nd isC = true) (hlen : w.length = n0) (hcov : ∀ k, k < n0 → k ∈ isC ∨ k ∈ isR) (hR : isR.map (fun i => w[i]?) = wr.map some) (hadl : w.map Prod.fst = adl) (hn : As.length = n) (hsize : ls.size = nL) (hroom : (rest.map fun v => v.category).sum ≤ 8) (hst : st0 = As.reverse ++ rest) (hdg : decode cc pc = .ok (.invokestatic index, 3)) (hf : cells + 0 ≤ R.cells ∧ slots + 0 ≤ R.slots)
    (kk : ∀ (w1 : va_W) (H1 : Heap) (locs1 : List Loc), PF w1 → (∀ w2 : va_W, isC.map (fun i => w2[i]?) = w1.map some → isR.map (fun i => w2[i]?) = wr.map some → w2.map Prod.fst = adl → va_P D vwCl w2 H1 ∧ va_D A w2) → va_S A s.heap H1 locs1 → W p l e R s m AV below meth c H1 locs1 cells slots Q (F0 m (pc + 3) ls (rest))) :
    W p l e R s m AV below meth c H locs cells slots Q (F0 m pc ls st0) := by
  subst hst
  have hf2 : isC.filterMap (fun i => w[i]?) = wc := by
    have h1 : isC.filterMap (fun i => w[i]?) = (isC.map (fun i => w[i]?)).filterMap id := by rw [List.filterMap_map]; rfl
    rw [h1, hC]
    simp
  have hPc : va_P D vwCl wc H := hP.sub isC hf2
  have hFc := va_free (wc := wc) hD hS hA isC hC
  refine va_callv (va_runS (rest := rest) S (hM H.size) cw ⟨zq_CP.blind, zq_pre hE hP hD isC hC hnd⟩ rfl hn hsize rfl (lv_room hroom) hdg hf) hS (fun q _ h => hFc q h) hFc (fun w1 t H1 locs1 ht hvm hw hB hz1 hk1 hS1 => ?_)
  obtain ⟨hP1, ha⟩ := hB
  rw [ht] at hP1
  exact kk w1 H1 locs1 hw (zq_j2 hP hD isC isR n0 hlen hcov hC hR hadl hk1 hP1) hS1
theorem zq_a_iald {p : Program} {l : Launch} {e : Env} {R : Room} {s : State} {m : MethodId} {AV : Array Value} {below : List Frame} {meth : Method} {c : Code} {H : Heap} {locs : List Loc} {cells slots : Nat} {Q : State → Prop} {cc : ByteArray} {pc : Nat} {ls : Array Slot} {rest : List Value} {D : va_G} {cl : List vw_C} {a : Nat} {tys : List (ClassId × FieldType)} {ws : va_W} (hexec : p.tables.exec = Jvm.exec) (hb : c.code = cc) (hK : va_K D cl tys s) (hP : va_P D cl ws H) (q0 t0 : Nat) {cA : ClassId} {n : Nat} {f : Nat → Int32} (ha : ws[q0]? = some (a, .inl (cA, n, .inl f))) (ht : tys[t0]? = some (cA, .int)) {i : Int32} (hin : vp_in i n) {j : Nat} (hj : i.toNatClampNeg = j) (hdg : decode cc pc = .ok (.iaload, 1))
    (kk : W p l e R s m AV below meth c H locs cells slots Q (F0 m (pc + 1) ls (.int (f j) :: rest))) : W p l e R s m AV below meth c H locs cells slots Q (F0 m pc ls (.int i :: .ref a :: rest)) := by
  subst hj
  exact va_iald hexec hb hK hP q0 t0 ha ht hin hdg kk
theorem zq_a_iast {p : Program} {l : Launch} {e : Env} {R : Room} {s : State} {m : MethodId} {AV : Array Value} {below : List Frame} {meth : Method} {c : Code} {H : Heap} {locs : List Loc} {cells slots : Nat} {Q : State → Prop} {cc : ByteArray} {pc : Nat} {ls : Array Slot} {rest : List Value} {D : va_G} {cl : List vw_C} {A : Nat → Prop} {a : Nat} {tys : List (ClassId × FieldType)} {ws : va_W} {H0 : Heap} (hexec : p.tables.exec = Jvm.exec) (hb : c.code = cc) (hK : va_K D cl tys s) (hP : va_P D cl ws H) (hD : va_D A ws) (hS : va_S A H0 H locs) (q0 t0 : Nat) {cA : ClassId} {n : Nat} {f : Nat → Int32} (ha : ws[q0]? = some (a, .inl (cA, n, .inl f))) (ht : tys[t0]? = some (cA, .int)) {i : Int32} {x : Int32} (hin : vp_in i n) {j : Nat} (hj : i.toNatClampNeg = j) (hdg : decode cc pc = .ok (.iastore, 1))
    (kk : ∀ (H1 : Heap) (locs1 : List Loc), va_P D cl (ws.set q0 (a, .inl (cA, n, .inl (upd f j x)))) H1 → va_D A (ws.set q0 (a, .inl (cA, n, .inl (upd f j x)))) → va_S A H0 H1 locs1 → W p l e R s m AV below meth c H1 locs1 cells slots Q (F0 m (pc + 1) ls rest)) : W p l e R s m AV below meth c H locs cells slots Q (F0 m pc ls (.int x :: .int i :: .ref a :: rest)) := by
  subst hj
  exact va_iast hexec hb hK hP hD hS q0 t0 ha ht hin hdg kk
theorem zq_a_bald {p : Program} {l : Launch} {e : Env} {R : Room} {s : State} {m : MethodId} {AV : Array Value} {below : List Frame} {meth : Method} {c : Code} {H : Heap} {locs : List Loc} {cells slots : Nat} {Q : State → Prop} {cc : ByteArray} {pc : Nat} {ls : Array Slot} {rest : List Value} {D : va_G} {cl : List vw_C} {a : Nat} {tys : List (ClassId × FieldType)} {ws : va_W} (hexec : p.tables.exec = Jvm.exec) (hb : c.code = cc) (hK : va_K D cl tys s) (hP : va_P D cl ws H) (q0 t0 : Nat) {cA : ClassId} {n : Nat} {f : Nat → Int32} (ha : ws[q0]? = some (a, .inl (cA, n, .inl f))) (ht : tys[t0]? = some (cA, .byte)) {i : Int32} (hin : vp_in i n) {j : Nat} (hj : i.toNatClampNeg = j) (hdg : decode cc pc = .ok (.baload, 1))
    (kk : W p l e R s m AV below meth c H locs cells slots Q (F0 m (pc + 1) ls (.int (f j) :: rest))) : W p l e R s m AV below meth c H locs cells slots Q (F0 m pc ls (.int i :: .ref a :: rest)) := by
  subst hj
  exact va_bald hexec hb hK hP q0 t0 ha ht hin hdg kk
theorem zq_a_bast {p : Program} {l : Launch} {e : Env} {R : Room} {s : State} {m : MethodId} {AV : Array Value} {below : List Frame} {meth : Method} {c : Code} {H : Heap} {locs : List Loc} {cells slots : Nat} {Q : State → Prop} {cc : ByteArray} {pc : Nat} {ls : Array Slot} {rest : List Value} {D : va_G} {cl : List vw_C} {A : Nat → Prop} {a : Nat} {tys : List (ClassId × FieldType)} {ws : va_W} {H0 : Heap} (hexec : p.tables.exec = Jvm.exec) (hb : c.code = cc) (hK : va_K D cl tys s) (hP : va_P D cl ws H) (hD : va_D A ws) (hS : va_S A H0 H locs) (q0 t0 : Nat) {cA : ClassId} {n : Nat} {f : Nat → Int32} (ha : ws[q0]? = some (a, .inl (cA, n, .inl f))) (ht : tys[t0]? = some (cA, .byte)) {i : Int32} {x : Int32} (hin : vp_in i n) {j : Nat} (hj : i.toNatClampNeg = j) (hdg : decode cc pc = .ok (.bastore, 1))
    (kk : ∀ (H1 : Heap) (locs1 : List Loc), va_P D cl (ws.set q0 (a, .inl (cA, n, .inl (upd f j (vp_nar .byte x))))) H1 → va_D A (ws.set q0 (a, .inl (cA, n, .inl (upd f j (vp_nar .byte x))))) → va_S A H0 H1 locs1 → W p l e R s m AV below meth c H1 locs1 cells slots Q (F0 m (pc + 1) ls rest)) : W p l e R s m AV below meth c H locs cells slots Q (F0 m pc ls (.int x :: .int i :: .ref a :: rest)) := by
  subst hj
  exact va_bast hexec hb hK hP hD hS q0 t0 ha ht hin hdg kk
theorem zq_a_zald {p : Program} {l : Launch} {e : Env} {R : Room} {s : State} {m : MethodId} {AV : Array Value} {below : List Frame} {meth : Method} {c : Code} {H : Heap} {locs : List Loc} {cells slots : Nat} {Q : State → Prop} {cc : ByteArray} {pc : Nat} {ls : Array Slot} {rest : List Value} {D : va_G} {cl : List vw_C} {a : Nat} {tys : List (ClassId × FieldType)} {ws : va_W} (hexec : p.tables.exec = Jvm.exec) (hb : c.code = cc) (hK : va_K D cl tys s) (hP : va_P D cl ws H) (q0 t0 : Nat) {cA : ClassId} {n : Nat} {f : Nat → Int32} (ha : ws[q0]? = some (a, .inl (cA, n, .inl f))) (ht : tys[t0]? = some (cA, .boolean)) {i : Int32} (hin : vp_in i n) {j : Nat} (hj : i.toNatClampNeg = j) (hdg : decode cc pc = .ok (.baload, 1))
    (kk : W p l e R s m AV below meth c H locs cells slots Q (F0 m (pc + 1) ls (.int (f j) :: rest))) : W p l e R s m AV below meth c H locs cells slots Q (F0 m pc ls (.int i :: .ref a :: rest)) := by
  subst hj
  exact va_zald hexec hb hK hP q0 t0 ha ht hin hdg kk
theorem zq_a_zast {p : Program} {l : Launch} {e : Env} {R : Room} {s : State} {m : MethodId} {AV : Array Value} {below : List Frame} {meth : Method} {c : Code} {H : Heap} {locs : List Loc} {cells slots : Nat} {Q : State → Prop} {cc : ByteArray} {pc : Nat} {ls : Array Slot} {rest : List Value} {D : va_G} {cl : List vw_C} {A : Nat → Prop} {a : Nat} {tys : List (ClassId × FieldType)} {ws : va_W} {H0 : Heap} (hexec : p.tables.exec = Jvm.exec) (hb : c.code = cc) (hK : va_K D cl tys s) (hP : va_P D cl ws H) (hD : va_D A ws) (hS : va_S A H0 H locs) (q0 t0 : Nat) {cA : ClassId} {n : Nat} {f : Nat → Int32} (ha : ws[q0]? = some (a, .inl (cA, n, .inl f))) (ht : tys[t0]? = some (cA, .boolean)) {i : Int32} {x : Int32} (hin : vp_in i n) {j : Nat} (hj : i.toNatClampNeg = j) (hdg : decode cc pc = .ok (.bastore, 1))
    (kk : ∀ (H1 : Heap) (locs1 : List Loc), va_P D cl (ws.set q0 (a, .inl (cA, n, .inl (upd f j (vp_nar .boolean x))))) H1 → va_D A (ws.set q0 (a, .inl (cA, n, .inl (upd f j (vp_nar .boolean x))))) → va_S A H0 H1 locs1 → W p l e R s m AV below meth c H1 locs1 cells slots Q (F0 m (pc + 1) ls rest)) : W p l e R s m AV below meth c H locs cells slots Q (F0 m pc ls (.int x :: .int i :: .ref a :: rest)) := by
  subst hj
  exact va_zast hexec hb hK hP hD hS q0 t0 ha ht hin hdg kk
theorem zq_a_lald {p : Program} {l : Launch} {e : Env} {R : Room} {s : State} {m : MethodId} {AV : Array Value} {below : List Frame} {meth : Method} {c : Code} {H : Heap} {locs : List Loc} {cells slots : Nat} {Q : State → Prop} {cc : ByteArray} {pc : Nat} {ls : Array Slot} {rest : List Value} {D : va_G} {cl : List vw_C} {a : Nat} {tys : List (ClassId × FieldType)} {ws : va_W} (hexec : p.tables.exec = Jvm.exec) (hb : c.code = cc) (hK : va_K D cl tys s) (hP : va_P D cl ws H) (q0 t0 : Nat) {cA : ClassId} {n : Nat} {f : Nat → Int64} (ha : ws[q0]? = some (a, .inl (cA, n, .inr (.inl f)))) (ht : tys[t0]? = some (cA, .long)) {i : Int32} (hin : vp_in i n) {j : Nat} (hj : i.toNatClampNeg = j) (hdg : decode cc pc = .ok (.laload, 1))
    (kk : W p l e R s m AV below meth c H locs cells slots Q (F0 m (pc + 1) ls (.long (f j) :: rest))) : W p l e R s m AV below meth c H locs cells slots Q (F0 m pc ls (.int i :: .ref a :: rest)) := by
  subst hj
  exact va_lald hexec hb hK hP q0 t0 ha ht hin hdg kk
theorem zq_a_last {p : Program} {l : Launch} {e : Env} {R : Room} {s : State} {m : MethodId} {AV : Array Value} {below : List Frame} {meth : Method} {c : Code} {H : Heap} {locs : List Loc} {cells slots : Nat} {Q : State → Prop} {cc : ByteArray} {pc : Nat} {ls : Array Slot} {rest : List Value} {D : va_G} {cl : List vw_C} {A : Nat → Prop} {a : Nat} {tys : List (ClassId × FieldType)} {ws : va_W} {H0 : Heap} (hexec : p.tables.exec = Jvm.exec) (hb : c.code = cc) (hK : va_K D cl tys s) (hP : va_P D cl ws H) (hD : va_D A ws) (hS : va_S A H0 H locs) (q0 t0 : Nat) {cA : ClassId} {n : Nat} {f : Nat → Int64} (ha : ws[q0]? = some (a, .inl (cA, n, .inr (.inl f)))) (ht : tys[t0]? = some (cA, .long)) {i : Int32} {x : Int64} (hin : vp_in i n) {j : Nat} (hj : i.toNatClampNeg = j) (hdg : decode cc pc = .ok (.lastore, 1))
    (kk : ∀ (H1 : Heap) (locs1 : List Loc), va_P D cl (ws.set q0 (a, .inl (cA, n, .inr (.inl (vp_updL f j x))))) H1 → va_D A (ws.set q0 (a, .inl (cA, n, .inr (.inl (vp_updL f j x))))) → va_S A H0 H1 locs1 → W p l e R s m AV below meth c H1 locs1 cells slots Q (F0 m (pc + 1) ls rest)) : W p l e R s m AV below meth c H locs cells slots Q (F0 m pc ls (.long x :: .int i :: .ref a :: rest)) := by
  subst hj
  exact va_last hexec hb hK hP hD hS q0 t0 ha ht hin hdg kk
/-! constructors: the world is the object alone; cells are made -/
def zq_MC (l : Launch) (y : MethodName) (ws : List Cond) (rm : Room) (D : va_G) (kT : Nat → ClassId) (av : List Value) (w : va_W) (PF : va_W → Prop) (mc ms : Nat) : Prop := ∀ sz : Nat, Met l y ws rm (va_Pc av (zq_CP D kT sz w)) (va_Qv PF (fun w' t => va_P D vwCl w' t.heap ∧ va_D (va_A w sz) w') (va_A w sz)) mc ms (va_A w sz)
theorem zq_MC_of {l : Launch} {y : MethodName} {ws : List Cond} {rm : Room} {D : va_G} {kT : Nat → ClassId} {av : List Value} {w : va_W} {PF : va_W → Prop} {mc ms : Nat} {cc : ByteArray} {maxL : Nat} {own : String}
    (hy : plainName y.cls = true) (hw : ws = Cond.code y cc maxL none :: zq_W) (ho : y.cls = own) (hav : (lg_sl av).length ≤ maxL) (hyn : y.name = "<init>")
    (body : ∀ (p : Program) (e : Env) (s : State) (m : MethodId) (AV : Array Value) (below : List Frame) (meth : Method) (c : Code) (A : Nat → Prop) (QQ : State → Prop) (H : Heap) (locs : List Loc) (ls : Array Slot),
      p.tables.exec = Jvm.exec → c.code = cc → c.maxLocals = maxL → s.vm.findClass own = some m.cls → (∀ w ∈ zq_W, w.before AV s = true) → zq_EV D kT s → (∀ q : Nat, s.heap.size ≤ q → A q) → meth.name = "<init>" →
      (∀ (w' : va_W) (H : Heap) (locs : List Loc) (pc : Nat) (ls : Array Slot), PF w' → va_P D vwCl w' H → va_D A w' → va_S A s.heap H locs → decode cc pc = .ok (.return_, 1) → W p l e rm s m AV below meth c H locs mc ms QQ (F0 m pc ls [])) →
      va_P D vwCl w H → va_D A w → va_S A s.heap H locs → lv_has ls maxL (lv_args 0 av) → W p l e rm s m AV below meth c H locs 0 0 QQ (F0 m 0 ls [])) : zq_MC l y ws rm D kT av w PF mc ms := by
  intro sz
  refine Met.ofW (cc := cc) (maxL := maxL) (ret := none) hy hw ?_
  intro p e s m args below meth c s₁ B hml hv
  obtain ⟨rfl, hsz, hP, hE, hD0⟩ := hv
  subst hsz
  have hr := B.returns
  have hlocks := B.notSynchronized
  have hin : meth.name = "<init>" := (name_of_methodNamed B.named B.method).1.trans hyn
  rw [lg_entry_eq]
  refine body p e s m _ below meth c (va_A w s.heap.size) _ s.heap [] _ B.exec B.bytes hml (by rw [← ho]; exact findClass_of_methodNamed B.named) (fun w h => atoms_spec (ws := ws) B.pre w (by rw [hw]; exact List.mem_cons_of_mem _ h)) hE (fun q h => Or.inr h) hin ?_ hP hD0.self va_S.rf (lv_entry av hav)
  intro w' H locs pc ls hpf hP' hD' hS hd
  exact W.vret B.exec B.bytes hr (fun t ht hW => ⟨⟨w', rfl, hpf, by rw [ht]; exact hP', hD'⟩, hS.F ht⟩) hS.2.2 hd
theorem zq_c_I {p : Program} {l : Launch} {e : Env} {R : Room} {s : State} {m : MethodId} {AV : Array Value} {below : List Frame} {meth : Method} {c : Code} {H : Heap} {locs : List Loc} {cells slots : Nat} {Q : State → Prop} {y : MethodName} {wsY : List Cond} {rmY : Room} {bytes cc : ByteArray} {maxL nL n index pc mc ms : Nat} {Ts : List Cond} {own : String} {b : Addr} {As rest st0 : List Value} {ls : Array Slot} {D : va_G} {kT : Nat → ClassId} {w wc wr : va_W} {A : Nat → Prop} {PF : va_W → Prop}
    (S : CallFix p m c cc nL s AV Ts own) (hM : zq_MC l y wsY rmY D kT (.ref b :: As) wc PF mc ms) (cw : CallB R s AV own index y bytes maxL none wsY rmY mc ms n ∧ y.name = "<init>" ∧ (Cond.instanceMethod y).before AV s = true) (hE : zq_EV D kT s) (hP : va_P D vwCl w H) (hD : va_D A w) (hS : va_S A s.heap H locs) (hA : ∀ q : Nat, s.heap.size ≤ q → A q)
    (isC isR : List Nat) (hC : isC.map (fun i => w[i]?) = wc.map some) (hR : isR.map (fun i => w[i]?) = wr.map some) (hnd : va_nd isC = true) (hndR : va_nd isR = true) (hdis : ∀ i ∈ isR, i ∉ isC) (hn : As.length = n) (hsize : ls.size = nL) (hroom : (rest.map fun v => v.category).sum ≤ 8) (hst : st0 = As.reverse ++ .ref b :: rest) (hdg : decode cc pc = .ok (.invokespecial index, 3)) (hf : cells + mc ≤ R.cells ∧ slots + ms ≤ R.slots)
    (kk : ∀ (w1 : va_W) (H1 : Heap) (locs1 : List Loc), PF w1 → va_P D vwCl (wr ++ w1) H1 → va_D A (wr ++ w1) → va_S A s.heap H1 locs1 → W p l e R s m AV below meth c H1 locs1 (cells + mc) (slots + ms) Q (F0 m (pc + 3) ls rest)) :
    W p l e R s m AV below meth c H locs cells slots Q (F0 m pc ls st0) := by
  subst hst
  have hFc := va_free (wc := wc) hD hS hA isC hC
  refine va_callv (va_runI (rest := rest) S (hM H.size) cw ⟨zq_CP.blind, zq_pre hE hP hD isC hC hnd⟩ rfl hn hsize rfl (lv_room hroom) hdg hf) hS (fun q _ h => hFc q h) hFc (fun w1 t H1 locs1 ht hvm hw hB hz1 hk1 hS1 => ?_)
  obtain ⟨hP1, hD1⟩ := hB
  rw [ht] at hP1
  obtain ⟨hP2, hD2⟩ := va_join (wr := wr) (w1 := w1) hP hD isC isR hC hR hndR hdis hk1 hFc hP1 hD1
  exact kk w1 H1 locs1 hw hP2 hD2 hS1
theorem zq_c_IN {p : Program} {l : Launch} {e : Env} {R : Room} {s : State} {m : MethodId} {AV : Array Value} {below : List Frame} {meth : Method} {c : Code} {H : Heap} {locs : List Loc} {cells slots : Nat} {Q : State → Prop} {y : MethodName} {wsY : List Cond} {rmY : Room} {bytes cc : ByteArray} {maxL nL n index pc mc ms : Nat} {Ts : List Cond} {own host : String} {b : Addr} {As rest st0 : List Value} {ls : Array Slot} {D : va_G} {kT : Nat → ClassId} {w wc wr : va_W} {A : Nat → Prop} {PF : va_W → Prop}
    (S : CallFix p m c cc nL s AV Ts own) (hM : zq_MC l y wsY rmY D kT (.ref b :: As) wc PF mc ms) (cw : va_CN R s AV own index y host bytes maxL none wsY rmY mc ms n ∧ y.name = "<init>" ∧ (Cond.instanceMethod y).before AV s = true) (hE : zq_EV D kT s) (hP : va_P D vwCl w H) (hD : va_D A w) (hS : va_S A s.heap H locs) (hA : ∀ q : Nat, s.heap.size ≤ q → A q)
    (isC isR : List Nat) (hC : isC.map (fun i => w[i]?) = wc.map some) (hR : isR.map (fun i => w[i]?) = wr.map some) (hnd : va_nd isC = true) (hndR : va_nd isR = true) (hdis : ∀ i ∈ isR, i ∉ isC) (hn : As.length = n) (hsize : ls.size = nL) (hroom : (rest.map fun v => v.category).sum ≤ 8) (hst : st0 = As.reverse ++ .ref b :: rest) (hdg : decode cc pc = .ok (.invokespecial index, 3)) (hf : cells + mc ≤ R.cells ∧ slots + ms ≤ R.slots)
    (kk : ∀ (w1 : va_W) (H1 : Heap) (locs1 : List Loc), PF w1 → va_P D vwCl (wr ++ w1) H1 → va_D A (wr ++ w1) → va_S A s.heap H1 locs1 → W p l e R s m AV below meth c H1 locs1 (cells + mc) (slots + ms) Q (F0 m (pc + 3) ls rest)) :
    W p l e R s m AV below meth c H locs cells slots Q (F0 m pc ls st0) := by
  subst hst
  have hFc := va_free (wc := wc) hD hS hA isC hC
  refine va_callv (va_runIN (rest := rest) S (hM H.size) cw ⟨zq_CP.blind, zq_pre hE hP hD isC hC hnd⟩ rfl hn hsize rfl (lv_room hroom) hdg hf) hS (fun q _ h => hFc q h) hFc (fun w1 t H1 locs1 ht hvm hw hB hz1 hk1 hS1 => ?_)
  obtain ⟨hP1, hD1⟩ := hB
  rw [ht] at hP1
  obtain ⟨hP2, hD2⟩ := va_join (wr := wr) (w1 := w1) hP hD isC isR hC hR hndR hdis hk1 hFc hP1 hD1
  exact kk w1 H1 locs1 hw hP2 hD2 hS1
/-- a new array, of an array class that is known already -/
theorem zq_newa {p : Program} {l : Launch} {e : Env} {R : Room} {s : State} {m : MethodId} {AV : Array Value} {below : List Frame} {meth : Method} {c : Code} {H : Heap} {locs : List Loc} {cells slots : Nat} {Q : State → Prop} {cc : ByteArray} {pc : Nat} {ls : Array Slot} {rest : List Value} {D : va_G} {cl : List vw_C} {A : Nat → Prop} {tys : List (ClassId × FieldType)} {ws : va_W} {H0 : Heap} (hexec : p.tables.exec = Jvm.exec) (hb : c.code = cc) {atype : ArrayType} (harr : (Cond.arrayClass (newarray.typeOf atype)).before AV s = true) {ty : FieldType} (hty : newarray.typeOf atype = ty) (hK : va_K D cl tys s) (hP : va_P D cl ws H) (hD : va_D A ws) (hS : va_S A H0 H locs) (hA : ∀ q, H0.size ≤ q → A q)
    (t0 : Nat) {cT : ClassId} (ht : tys[t0]? = some (cT, ty)) {n : Int32} {N' : Nat} {a0 : vp_A} (ha : ∀ cA : ClassId, vp_cell cA a0 = arrV cA N' (fun _ => defaultValue ty)) (hn : ¬ n < 0) (hN : n.toNatClampNeg = N') (hbytes : N' * componentBytes ty ≤ 536870912) (hcells : cells + 1 ≤ R.cells) (hslots : slots + N' ≤ R.slots) (hdg : decode cc pc = .ok (.newarray atype, 2))
    (kk : ∀ (q : Nat) (H1 : Heap), va_P D cl (ws ++ [(q, .inl (cT, a0))]) H1 → va_D A (ws ++ [(q, .inl (cT, a0))]) → va_S A H0 H1 locs →
      W p l e R s m AV below meth c H1 locs (cells + 1) (slots + N') Q (F0 m (pc + 2) ls (.ref q :: rest))) : W p l e R s m AV below meth c H locs cells slots Q (F0 m pc ls (.int n :: rest)) := by
  refine va_newa hexec hb harr hty hK hP hD hS hA ha hn hN hbytes hcells hslots hdg (fun q cA H1 hK1 hP1 hD1 hS1 => ?_)
  have e : cA = cT := by
    have h1 := (hK.2 t0 _ ht).2
    have h2 := (hK1.2 tys.length (cA, ty) (by simp)).2
    subst hty
    cases atype <;> exact Option.some.inj (h2.symm.trans h1)
  subst e
  exact kk q H1 hP1 hD1 hS1
end
section
theorem zd_Registers_init_0 : decode zb_Registers_init 0 = .ok (.aload_n 0, 1) := by decide +kernel
theorem zd_Registers_init_1 : decode zb_Registers_init 1 = .ok (.invokespecial 3, 3) := by decide +kernel
theorem zd_Registers_init_4 : decode zb_Registers_init 4 = .ok (.aload_n 0, 1) := by decide +kernel
theorem zd_Registers_init_5 : decode zb_Registers_init 5 = .ok (.bipush 24, 2) := by decide +kernel
theorem zd_Registers_init_7 : decode zb_Registers_init 7 = .ok (.newarray .long, 2) := by decide +kernel
theorem zd_Registers_init_9 : decode zb_Registers_init 9 = .ok (.putfield 9, 3) := by decide +kernel
theorem zd_Registers_init_12 : decode zb_Registers_init 12 = .ok (.aload_n 0, 1) := by decide +kernel
theorem zd_Registers_init_13 : decode zb_Registers_init 13 = .ok (.bipush 24, 2) := by decide +kernel
theorem zd_Registers_init_15 : decode zb_Registers_init 15 = .ok (.newarray .long, 2) := by decide +kernel
theorem zd_Registers_init_17 : decode zb_Registers_init 17 = .ok (.putfield 15, 3) := by decide +kernel
theorem zd_Registers_init_20 : decode zb_Registers_init 20 = .ok (.aload_n 0, 1) := by decide +kernel
theorem zd_Registers_init_21 : decode zb_Registers_init 21 = .ok (.bipush 24, 2) := by decide +kernel
theorem zd_Registers_init_23 : decode zb_Registers_init 23 = .ok (.newarray .boolean, 2) := by decide +kernel
theorem zd_Registers_init_25 : decode zb_Registers_init 25 = .ok (.putfield 18, 3) := by decide +kernel
theorem zd_Registers_init_28 : decode zb_Registers_init 28 = .ok (.aload_n 0, 1) := by decide +kernel
theorem zd_Registers_init_29 : decode zb_Registers_init 29 = .ok (.getfield 9, 3) := by decide +kernel
theorem zd_Registers_init_32 : decode zb_Registers_init 32 = .ok (.iconst 0, 1) := by decide +kernel
theorem zd_Registers_init_33 : decode zb_Registers_init 33 = .ok (.ldc2_w 22, 3) := by decide +kernel
theorem zd_Registers_init_36 : decode zb_Registers_init 36 = .ok (.lastore, 1) := by decide +kernel
theorem zd_Registers_init_37 : decode zb_Registers_init 37 = .ok (.aload_n 0, 1) := by decide +kernel
theorem zd_Registers_init_38 : decode zb_Registers_init 38 = .ok (.iconst 1, 1) := by decide +kernel
theorem zd_Registers_init_39 : decode zb_Registers_init 39 = .ok (.putfield 24, 3) := by decide +kernel
theorem zd_Registers_init_42 : decode zb_Registers_init 42 = .ok (.return_, 1) := by decide +kernel
theorem zd_Registers_add_0 : decode zb_Registers_add 0 = .ok (.aload_n 0, 1) := by decide +kernel
theorem zd_Registers_add_1 : decode zb_Registers_add 1 = .ok (.getfield 9, 3) := by decide +kernel
theorem zd_Registers_add_4 : decode zb_Registers_add 4 = .ok (.aload_n 0, 1) := by decide +kernel
theorem zd_Registers_add_5 : decode zb_Registers_add 5 = .ok (.getfield 24, 3) := by decide +kernel
theorem zd_Registers_add_8 : decode zb_Registers_add 8 = .ok (.ldc2_w 28, 3) := by decide +kernel
theorem zd_Registers_add_11 : decode zb_Registers_add 11 = .ok (.bipush 64, 2) := by decide +kernel
theorem zd_Registers_add_13 : decode zb_Registers_add 13 = .ok (.iload_n 1, 1) := by decide +kernel
theorem zd_Registers_add_14 : decode zb_Registers_add 14 = .ok (.isub, 1) := by decide +kernel
theorem zd_Registers_add_15 : decode zb_Registers_add 15 = .ok (.lushr, 1) := by decide +kernel
theorem zd_Registers_add_16 : decode zb_Registers_add 16 = .ok (.lastore, 1) := by decide +kernel
theorem zd_Registers_add_17 : decode zb_Registers_add 17 = .ok (.aload_n 0, 1) := by decide +kernel
theorem zd_Registers_add_18 : decode zb_Registers_add 18 = .ok (.getfield 18, 3) := by decide +kernel
theorem zd_Registers_add_21 : decode zb_Registers_add 21 = .ok (.aload_n 0, 1) := by decide +kernel
theorem zd_Registers_add_22 : decode zb_Registers_add 22 = .ok (.getfield 24, 3) := by decide +kernel
theorem zd_Registers_add_25 : decode zb_Registers_add 25 = .ok (.iconst 1, 1) := by decide +kernel
theorem zd_Registers_add_26 : decode zb_Registers_add 26 = .ok (.bastore, 1) := by decide +kernel
theorem zd_Registers_add_27 : decode zb_Registers_add 27 = .ok (.aload_n 0, 1) := by decide +kernel
theorem zd_Registers_add_28 : decode zb_Registers_add 28 = .ok (.dup, 1) := by decide +kernel
theorem zd_Registers_add_29 : decode zb_Registers_add 29 = .ok (.getfield 24, 3) := by decide +kernel
theorem zd_Registers_add_32 : decode zb_Registers_add 32 = .ok (.iconst 1, 1) := by decide +kernel
theorem zd_Registers_add_33 : decode zb_Registers_add 33 = .ok (.iadd, 1) := by decide +kernel
theorem zd_Registers_add_34 : decode zb_Registers_add 34 = .ok (.putfield 24, 3) := by decide +kernel
theorem zd_Registers_add_37 : decode zb_Registers_add 37 = .ok (.aload_n 0, 1) := by decide +kernel
theorem zd_Registers_add_38 : decode zb_Registers_add 38 = .ok (.getfield 24, 3) := by decide +kernel
theorem zd_Registers_add_41 : decode zb_Registers_add 41 = .ok (.iconst 1, 1) := by decide +kernel
theorem zd_Registers_add_42 : decode zb_Registers_add 42 = .ok (.isub, 1) := by decide +kernel
theorem zd_Registers_add_43 : decode zb_Registers_add 43 = .ok (.ireturn, 1) := by decide +kernel
theorem zd_Registers_has_0 : decode zb_Registers_has 0 = .ok (.iload_n 1, 1) := by decide +kernel
theorem zd_Registers_has_1 : decode zb_Registers_has 1 = .ok (.ifCond .lt 15, 3) := by decide +kernel
theorem zd_Registers_has_4 : decode zb_Registers_has 4 = .ok (.iload_n 1, 1) := by decide +kernel
theorem zd_Registers_has_5 : decode zb_Registers_has 5 = .ok (.aload_n 0, 1) := by decide +kernel
theorem zd_Registers_has_6 : decode zb_Registers_has 6 = .ok (.getfield 24, 3) := by decide +kernel
theorem zd_Registers_has_9 : decode zb_Registers_has 9 = .ok (.if_icmp .ge 7, 3) := by decide +kernel
theorem zd_Registers_has_12 : decode zb_Registers_has 12 = .ok (.iconst 1, 1) := by decide +kernel
theorem zd_Registers_has_13 : decode zb_Registers_has 13 = .ok (.goto 4, 3) := by decide +kernel
theorem zd_Registers_has_16 : decode zb_Registers_has 16 = .ok (.iconst 0, 1) := by decide +kernel
theorem zd_Registers_has_17 : decode zb_Registers_has 17 = .ok (.ireturn, 1) := by decide +kernel
theorem zd_Registers_valueOf_0 : decode zb_Registers_valueOf 0 = .ok (.aload_n 0, 1) := by decide +kernel
theorem zd_Registers_valueOf_1 : decode zb_Registers_valueOf 1 = .ok (.getfield 15, 3) := by decide +kernel
theorem zd_Registers_valueOf_4 : decode zb_Registers_valueOf 4 = .ok (.iload_n 1, 1) := by decide +kernel
theorem zd_Registers_valueOf_5 : decode zb_Registers_valueOf 5 = .ok (.laload, 1) := by decide +kernel
theorem zd_Registers_valueOf_6 : decode zb_Registers_valueOf 6 = .ok (.lreturn, 1) := by decide +kernel
theorem zd_Registers_isMarked_0 : decode zb_Registers_isMarked 0 = .ok (.aload_n 0, 1) := by decide +kernel
theorem zd_Registers_isMarked_1 : decode zb_Registers_isMarked 1 = .ok (.getfield 18, 3) := by decide +kernel
theorem zd_Registers_isMarked_4 : decode zb_Registers_isMarked 4 = .ok (.iload_n 1, 1) := by decide +kernel
theorem zd_Registers_isMarked_5 : decode zb_Registers_isMarked 5 = .ok (.baload, 1) := by decide +kernel
theorem zd_Registers_isMarked_6 : decode zb_Registers_isMarked 6 = .ok (.ireturn, 1) := by decide +kernel
theorem zd_Registers_put_0 : decode zb_Registers_put 0 = .ok (.aload_n 0, 1) := by decide +kernel
theorem zd_Registers_put_1 : decode zb_Registers_put 1 = .ok (.getfield 15, 3) := by decide +kernel
theorem zd_Registers_put_4 : decode zb_Registers_put 4 = .ok (.iload_n 1, 1) := by decide +kernel
theorem zd_Registers_put_5 : decode zb_Registers_put 5 = .ok (.lload_n 2, 1) := by decide +kernel
theorem zd_Registers_put_6 : decode zb_Registers_put 6 = .ok (.aload_n 0, 1) := by decide +kernel
theorem zd_Registers_put_7 : decode zb_Registers_put 7 = .ok (.getfield 9, 3) := by decide +kernel
theorem zd_Registers_put_10 : decode zb_Registers_put 10 = .ok (.iload_n 1, 1) := by decide +kernel
theorem zd_Registers_put_11 : decode zb_Registers_put 11 = .ok (.laload, 1) := by decide +kernel
theorem zd_Registers_put_12 : decode zb_Registers_put 12 = .ok (.land, 1) := by decide +kernel
theorem zd_Registers_put_13 : decode zb_Registers_put 13 = .ok (.lastore, 1) := by decide +kernel
theorem zd_Registers_put_14 : decode zb_Registers_put 14 = .ok (.aload_n 0, 1) := by decide +kernel
theorem zd_Registers_put_15 : decode zb_Registers_put 15 = .ok (.getfield 18, 3) := by decide +kernel
theorem zd_Registers_put_18 : decode zb_Registers_put 18 = .ok (.iload_n 1, 1) := by decide +kernel
theorem zd_Registers_put_19 : decode zb_Registers_put 19 = .ok (.iload 4, 2) := by decide +kernel
theorem zd_Registers_put_21 : decode zb_Registers_put 21 = .ok (.bastore, 1) := by decide +kernel
theorem zd_Registers_put_22 : decode zb_Registers_put 22 = .ok (.return_, 1) := by decide +kernel
theorem zd_Registers_placeNow_0 : decode zb_Registers_placeNow 0 = .ok (.aload_n 0, 1) := by decide +kernel
theorem zd_Registers_placeNow_1 : decode zb_Registers_placeNow 1 = .ok (.getfield 15, 3) := by decide +kernel
theorem zd_Registers_placeNow_4 : decode zb_Registers_placeNow 4 = .ok (.iconst 0, 1) := by decide +kernel
theorem zd_Registers_placeNow_5 : decode zb_Registers_placeNow 5 = .ok (.laload, 1) := by decide +kernel
theorem zd_Registers_placeNow_6 : decode zb_Registers_placeNow 6 = .ok (.l2i, 1) := by decide +kernel
theorem zd_Registers_placeNow_7 : decode zb_Registers_placeNow 7 = .ok (.ireturn, 1) := by decide +kernel
theorem zd_Registers_movePlace_0 : decode zb_Registers_movePlace 0 = .ok (.aload_n 0, 1) := by decide +kernel
theorem zd_Registers_movePlace_1 : decode zb_Registers_movePlace 1 = .ok (.iconst 0, 1) := by decide +kernel
theorem zd_Registers_movePlace_2 : decode zb_Registers_movePlace 2 = .ok (.iload_n 1, 1) := by decide +kernel
theorem zd_Registers_movePlace_3 : decode zb_Registers_movePlace 3 = .ok (.i2l, 1) := by decide +kernel
theorem zd_Registers_movePlace_4 : decode zb_Registers_movePlace 4 = .ok (.aload_n 0, 1) := by decide +kernel
theorem zd_Registers_movePlace_5 : decode zb_Registers_movePlace 5 = .ok (.getfield 18, 3) := by decide +kernel
theorem zd_Registers_movePlace_8 : decode zb_Registers_movePlace 8 = .ok (.iconst 0, 1) := by decide +kernel
theorem zd_Registers_movePlace_9 : decode zb_Registers_movePlace 9 = .ok (.baload, 1) := by decide +kernel
theorem zd_Registers_movePlace_10 : decode zb_Registers_movePlace 10 = .ok (.invokevirtual 30, 3) := by decide +kernel
theorem zd_Registers_movePlace_13 : decode zb_Registers_movePlace 13 = .ok (.return_, 1) := by decide +kernel
theorem zd_Bytes_init_0 : decode zb_Bytes_init 0 = .ok (.aload_n 0, 1) := by decide +kernel
theorem zd_Bytes_init_1 : decode zb_Bytes_init 1 = .ok (.invokespecial 3, 3) := by decide +kernel
theorem zd_Bytes_init_4 : decode zb_Bytes_init 4 = .ok (.aload_n 0, 1) := by decide +kernel
theorem zd_Bytes_init_5 : decode zb_Bytes_init 5 = .ok (.sipush 4096, 3) := by decide +kernel
theorem zd_Bytes_init_8 : decode zb_Bytes_init 8 = .ok (.newarray .byte, 2) := by decide +kernel
theorem zd_Bytes_init_10 : decode zb_Bytes_init 10 = .ok (.putfield 9, 3) := by decide +kernel
theorem zd_Bytes_init_13 : decode zb_Bytes_init 13 = .ok (.return_, 1) := by decide +kernel
theorem zd_Bytes_hasByte_0 : decode zb_Bytes_hasByte 0 = .ok (.lload_n 1, 1) := by decide +kernel
theorem zd_Bytes_hasByte_1 : decode zb_Bytes_hasByte 1 = .ok (.lconst 0, 1) := by decide +kernel
theorem zd_Bytes_hasByte_2 : decode zb_Bytes_hasByte 2 = .ok (.lcmp, 1) := by decide +kernel
theorem zd_Bytes_hasByte_3 : decode zb_Bytes_hasByte 3 = .ok (.ifCond .lt 15, 3) := by decide +kernel
theorem zd_Bytes_hasByte_6 : decode zb_Bytes_hasByte 6 = .ok (.lload_n 1, 1) := by decide +kernel
theorem zd_Bytes_hasByte_7 : decode zb_Bytes_hasByte 7 = .ok (.ldc2_w 15, 3) := by decide +kernel
theorem zd_Bytes_hasByte_10 : decode zb_Bytes_hasByte 10 = .ok (.lcmp, 1) := by decide +kernel
theorem zd_Bytes_hasByte_11 : decode zb_Bytes_hasByte 11 = .ok (.ifCond .ge 7, 3) := by decide +kernel
theorem zd_Bytes_hasByte_14 : decode zb_Bytes_hasByte 14 = .ok (.iconst 1, 1) := by decide +kernel
theorem zd_Bytes_hasByte_15 : decode zb_Bytes_hasByte 15 = .ok (.goto 4, 3) := by decide +kernel
theorem zd_Bytes_hasByte_18 : decode zb_Bytes_hasByte 18 = .ok (.iconst 0, 1) := by decide +kernel
theorem zd_Bytes_hasByte_19 : decode zb_Bytes_hasByte 19 = .ok (.ireturn, 1) := by decide +kernel
theorem zd_Bytes_hasWord_0 : decode zb_Bytes_hasWord 0 = .ok (.aload_n 0, 1) := by decide +kernel
theorem zd_Bytes_hasWord_1 : decode zb_Bytes_hasWord 1 = .ok (.lload_n 1, 1) := by decide +kernel
theorem zd_Bytes_hasWord_2 : decode zb_Bytes_hasWord 2 = .ok (.invokevirtual 17, 3) := by decide +kernel
theorem zd_Bytes_hasWord_5 : decode zb_Bytes_hasWord 5 = .ok (.ifCond .eq 15, 3) := by decide +kernel
theorem zd_Bytes_hasWord_8 : decode zb_Bytes_hasWord 8 = .ok (.lload_n 1, 1) := by decide +kernel
theorem zd_Bytes_hasWord_9 : decode zb_Bytes_hasWord 9 = .ok (.lconst 1, 1) := by decide +kernel
theorem zd_Bytes_hasWord_10 : decode zb_Bytes_hasWord 10 = .ok (.land, 1) := by decide +kernel
theorem zd_Bytes_hasWord_11 : decode zb_Bytes_hasWord 11 = .ok (.lconst 0, 1) := by decide +kernel
theorem zd_Bytes_hasWord_12 : decode zb_Bytes_hasWord 12 = .ok (.lcmp, 1) := by decide +kernel
theorem zd_Bytes_hasWord_13 : decode zb_Bytes_hasWord 13 = .ok (.ifCond .ne 7, 3) := by decide +kernel
theorem zd_Bytes_hasWord_16 : decode zb_Bytes_hasWord 16 = .ok (.iconst 1, 1) := by decide +kernel
theorem zd_Bytes_hasWord_17 : decode zb_Bytes_hasWord 17 = .ok (.goto 4, 3) := by decide +kernel
theorem zd_Bytes_hasWord_20 : decode zb_Bytes_hasWord 20 = .ok (.iconst 0, 1) := by decide +kernel
theorem zd_Bytes_hasWord_21 : decode zb_Bytes_hasWord 21 = .ok (.ireturn, 1) := by decide +kernel
theorem zd_Bytes_byteOf_0 : decode zb_Bytes_byteOf 0 = .ok (.aload_n 0, 1) := by decide +kernel
theorem zd_Bytes_byteOf_1 : decode zb_Bytes_byteOf 1 = .ok (.getfield 9, 3) := by decide +kernel
theorem zd_Bytes_byteOf_4 : decode zb_Bytes_byteOf 4 = .ok (.iload_n 1, 1) := by decide +kernel
theorem zd_Bytes_byteOf_5 : decode zb_Bytes_byteOf 5 = .ok (.baload, 1) := by decide +kernel
theorem zd_Bytes_byteOf_6 : decode zb_Bytes_byteOf 6 = .ok (.sipush 255, 3) := by decide +kernel
theorem zd_Bytes_byteOf_9 : decode zb_Bytes_byteOf 9 = .ok (.iand, 1) := by decide +kernel
theorem zd_Bytes_byteOf_10 : decode zb_Bytes_byteOf 10 = .ok (.ireturn, 1) := by decide +kernel
theorem zd_Bytes_wordOf_0 : decode zb_Bytes_wordOf 0 = .ok (.aload_n 0, 1) := by decide +kernel
theorem zd_Bytes_wordOf_1 : decode zb_Bytes_wordOf 1 = .ok (.getfield 9, 3) := by decide +kernel
theorem zd_Bytes_wordOf_4 : decode zb_Bytes_wordOf 4 = .ok (.iload_n 1, 1) := by decide +kernel
theorem zd_Bytes_wordOf_5 : decode zb_Bytes_wordOf 5 = .ok (.baload, 1) := by decide +kernel
theorem zd_Bytes_wordOf_6 : decode zb_Bytes_wordOf 6 = .ok (.sipush 255, 3) := by decide +kernel
theorem zd_Bytes_wordOf_9 : decode zb_Bytes_wordOf 9 = .ok (.iand, 1) := by decide +kernel
theorem zd_Bytes_wordOf_10 : decode zb_Bytes_wordOf 10 = .ok (.aload_n 0, 1) := by decide +kernel
theorem zd_Bytes_wordOf_11 : decode zb_Bytes_wordOf 11 = .ok (.getfield 9, 3) := by decide +kernel
theorem zd_Bytes_wordOf_14 : decode zb_Bytes_wordOf 14 = .ok (.iload_n 1, 1) := by decide +kernel
theorem zd_Bytes_wordOf_15 : decode zb_Bytes_wordOf 15 = .ok (.iconst 1, 1) := by decide +kernel
theorem zd_Bytes_wordOf_16 : decode zb_Bytes_wordOf 16 = .ok (.iadd, 1) := by decide +kernel
theorem zd_Bytes_wordOf_17 : decode zb_Bytes_wordOf 17 = .ok (.baload, 1) := by decide +kernel
theorem zd_Bytes_wordOf_18 : decode zb_Bytes_wordOf 18 = .ok (.sipush 255, 3) := by decide +kernel
theorem zd_Bytes_wordOf_21 : decode zb_Bytes_wordOf 21 = .ok (.iand, 1) := by decide +kernel
theorem zd_Bytes_wordOf_22 : decode zb_Bytes_wordOf 22 = .ok (.bipush 8, 2) := by decide +kernel
theorem zd_Bytes_wordOf_24 : decode zb_Bytes_wordOf 24 = .ok (.ishl, 1) := by decide +kernel
theorem zd_Bytes_wordOf_25 : decode zb_Bytes_wordOf 25 = .ok (.ior, 1) := by decide +kernel
theorem zd_Bytes_wordOf_26 : decode zb_Bytes_wordOf 26 = .ok (.ireturn, 1) := by decide +kernel
theorem zd_Bytes_putByte_0 : decode zb_Bytes_putByte 0 = .ok (.aload_n 0, 1) := by decide +kernel
theorem zd_Bytes_putByte_1 : decode zb_Bytes_putByte 1 = .ok (.getfield 9, 3) := by decide +kernel
theorem zd_Bytes_putByte_4 : decode zb_Bytes_putByte 4 = .ok (.iload_n 1, 1) := by decide +kernel
theorem zd_Bytes_putByte_5 : decode zb_Bytes_putByte 5 = .ok (.lload_n 2, 1) := by decide +kernel
theorem zd_Bytes_putByte_6 : decode zb_Bytes_putByte 6 = .ok (.l2i, 1) := by decide +kernel
theorem zd_Bytes_putByte_7 : decode zb_Bytes_putByte 7 = .ok (.i2b, 1) := by decide +kernel
theorem zd_Bytes_putByte_8 : decode zb_Bytes_putByte 8 = .ok (.bastore, 1) := by decide +kernel
theorem zd_Bytes_putByte_9 : decode zb_Bytes_putByte 9 = .ok (.return_, 1) := by decide +kernel
theorem zd_Bytes_putWord_0 : decode zb_Bytes_putWord 0 = .ok (.aload_n 0, 1) := by decide +kernel
theorem zd_Bytes_putWord_1 : decode zb_Bytes_putWord 1 = .ok (.getfield 9, 3) := by decide +kernel
theorem zd_Bytes_putWord_4 : decode zb_Bytes_putWord 4 = .ok (.iload_n 1, 1) := by decide +kernel
theorem zd_Bytes_putWord_5 : decode zb_Bytes_putWord 5 = .ok (.lload_n 2, 1) := by decide +kernel
theorem zd_Bytes_putWord_6 : decode zb_Bytes_putWord 6 = .ok (.l2i, 1) := by decide +kernel
theorem zd_Bytes_putWord_7 : decode zb_Bytes_putWord 7 = .ok (.i2b, 1) := by decide +kernel
theorem zd_Bytes_putWord_8 : decode zb_Bytes_putWord 8 = .ok (.bastore, 1) := by decide +kernel
theorem zd_Bytes_putWord_9 : decode zb_Bytes_putWord 9 = .ok (.aload_n 0, 1) := by decide +kernel
theorem zd_Bytes_putWord_10 : decode zb_Bytes_putWord 10 = .ok (.getfield 9, 3) := by decide +kernel
theorem zd_Bytes_putWord_13 : decode zb_Bytes_putWord 13 = .ok (.iload_n 1, 1) := by decide +kernel
theorem zd_Bytes_putWord_14 : decode zb_Bytes_putWord 14 = .ok (.iconst 1, 1) := by decide +kernel
theorem zd_Bytes_putWord_15 : decode zb_Bytes_putWord 15 = .ok (.iadd, 1) := by decide +kernel
theorem zd_Bytes_putWord_16 : decode zb_Bytes_putWord 16 = .ok (.lload_n 2, 1) := by decide +kernel
theorem zd_Bytes_putWord_17 : decode zb_Bytes_putWord 17 = .ok (.bipush 8, 2) := by decide +kernel
theorem zd_Bytes_putWord_19 : decode zb_Bytes_putWord 19 = .ok (.lushr, 1) := by decide +kernel
theorem zd_Bytes_putWord_20 : decode zb_Bytes_putWord 20 = .ok (.l2i, 1) := by decide +kernel
theorem zd_Bytes_putWord_21 : decode zb_Bytes_putWord 21 = .ok (.i2b, 1) := by decide +kernel
theorem zd_Bytes_putWord_22 : decode zb_Bytes_putWord 22 = .ok (.bastore, 1) := by decide +kernel
theorem zd_Bytes_putWord_23 : decode zb_Bytes_putWord 23 = .ok (.return_, 1) := by decide +kernel
theorem zd_Operands_init_0 : decode zb_Operands_init 0 = .ok (.aload_n 0, 1) := by decide +kernel
theorem zd_Operands_init_1 : decode zb_Operands_init 1 = .ok (.invokespecial 3, 3) := by decide +kernel
theorem zd_Operands_init_4 : decode zb_Operands_init 4 = .ok (.aload_n 0, 1) := by decide +kernel
theorem zd_Operands_init_5 : decode zb_Operands_init 5 = .ok (.bipush 16, 2) := by decide +kernel
theorem zd_Operands_init_7 : decode zb_Operands_init 7 = .ok (.newarray .long, 2) := by decide +kernel
theorem zd_Operands_init_9 : decode zb_Operands_init 9 = .ok (.putfield 9, 3) := by decide +kernel
theorem zd_Operands_init_12 : decode zb_Operands_init 12 = .ok (.aload_n 0, 1) := by decide +kernel
theorem zd_Operands_init_13 : decode zb_Operands_init 13 = .ok (.bipush 16, 2) := by decide +kernel
theorem zd_Operands_init_15 : decode zb_Operands_init 15 = .ok (.newarray .int, 2) := by decide +kernel
theorem zd_Operands_init_17 : decode zb_Operands_init 17 = .ok (.putfield 15, 3) := by decide +kernel
theorem zd_Operands_init_20 : decode zb_Operands_init 20 = .ok (.aload_n 0, 1) := by decide +kernel
theorem zd_Operands_init_21 : decode zb_Operands_init 21 = .ok (.bipush 16, 2) := by decide +kernel
theorem zd_Operands_init_23 : decode zb_Operands_init 23 = .ok (.newarray .int, 2) := by decide +kernel
theorem zd_Operands_init_25 : decode zb_Operands_init 25 = .ok (.putfield 19, 3) := by decide +kernel
theorem zd_Operands_init_28 : decode zb_Operands_init 28 = .ok (.aload_n 0, 1) := by decide +kernel
theorem zd_Operands_init_29 : decode zb_Operands_init 29 = .ok (.bipush 16, 2) := by decide +kernel
theorem zd_Operands_init_31 : decode zb_Operands_init 31 = .ok (.newarray .boolean, 2) := by decide +kernel
theorem zd_Operands_init_33 : decode zb_Operands_init 33 = .ok (.putfield 22, 3) := by decide +kernel
theorem zd_Operands_init_36 : decode zb_Operands_init 36 = .ok (.aload_n 0, 1) := by decide +kernel
theorem zd_Operands_init_37 : decode zb_Operands_init 37 = .ok (.aload_n 1, 1) := by decide +kernel
theorem zd_Operands_init_38 : decode zb_Operands_init 38 = .ok (.putfield 26, 3) := by decide +kernel
theorem zd_Operands_init_41 : decode zb_Operands_init 41 = .ok (.return_, 1) := by decide +kernel
theorem zd_Operands_addConstant_0 : decode zb_Operands_addConstant 0 = .ok (.aload_n 0, 1) := by decide +kernel
theorem zd_Operands_addConstant_1 : decode zb_Operands_addConstant 1 = .ok (.getfield 9, 3) := by decide +kernel
theorem zd_Operands_addConstant_4 : decode zb_Operands_addConstant 4 = .ok (.aload_n 0, 1) := by decide +kernel
theorem zd_Operands_addConstant_5 : decode zb_Operands_addConstant 5 = .ok (.getfield 30, 3) := by decide +kernel
theorem zd_Operands_addConstant_8 : decode zb_Operands_addConstant 8 = .ok (.lload_n 1, 1) := by decide +kernel
theorem zd_Operands_addConstant_9 : decode zb_Operands_addConstant 9 = .ok (.lastore, 1) := by decide +kernel
theorem zd_Operands_addConstant_10 : decode zb_Operands_addConstant 10 = .ok (.aload_n 0, 1) := by decide +kernel
theorem zd_Operands_addConstant_11 : decode zb_Operands_addConstant 11 = .ok (.dup, 1) := by decide +kernel
theorem zd_Operands_addConstant_12 : decode zb_Operands_addConstant 12 = .ok (.getfield 30, 3) := by decide +kernel
theorem zd_Operands_addConstant_15 : decode zb_Operands_addConstant 15 = .ok (.iconst 1, 1) := by decide +kernel
theorem zd_Operands_addConstant_16 : decode zb_Operands_addConstant 16 = .ok (.iadd, 1) := by decide +kernel
theorem zd_Operands_addConstant_17 : decode zb_Operands_addConstant 17 = .ok (.putfield 30, 3) := by decide +kernel
theorem zd_Operands_addConstant_20 : decode zb_Operands_addConstant 20 = .ok (.bipush 32, 2) := by decide +kernel
theorem zd_Operands_addConstant_22 : decode zb_Operands_addConstant 22 = .ok (.aload_n 0, 1) := by decide +kernel
theorem zd_Operands_addConstant_23 : decode zb_Operands_addConstant 23 = .ok (.getfield 30, 3) := by decide +kernel
theorem zd_Operands_addConstant_26 : decode zb_Operands_addConstant 26 = .ok (.iadd, 1) := by decide +kernel
theorem zd_Operands_addConstant_27 : decode zb_Operands_addConstant 27 = .ok (.iconst 1, 1) := by decide +kernel
theorem zd_Operands_addConstant_28 : decode zb_Operands_addConstant 28 = .ok (.isub, 1) := by decide +kernel
theorem zd_Operands_addConstant_29 : decode zb_Operands_addConstant 29 = .ok (.ireturn, 1) := by decide +kernel
theorem zd_Operands_addField_0 : decode zb_Operands_addField 0 = .ok (.aload_n 0, 1) := by decide +kernel
theorem zd_Operands_addField_1 : decode zb_Operands_addField 1 = .ok (.getfield 15, 3) := by decide +kernel
theorem zd_Operands_addField_4 : decode zb_Operands_addField 4 = .ok (.aload_n 0, 1) := by decide +kernel
theorem zd_Operands_addField_5 : decode zb_Operands_addField 5 = .ok (.getfield 34, 3) := by decide +kernel
theorem zd_Operands_addField_8 : decode zb_Operands_addField 8 = .ok (.iload_n 1, 1) := by decide +kernel
theorem zd_Operands_addField_9 : decode zb_Operands_addField 9 = .ok (.iastore, 1) := by decide +kernel
theorem zd_Operands_addField_10 : decode zb_Operands_addField 10 = .ok (.aload_n 0, 1) := by decide +kernel
theorem zd_Operands_addField_11 : decode zb_Operands_addField 11 = .ok (.getfield 19, 3) := by decide +kernel
theorem zd_Operands_addField_14 : decode zb_Operands_addField 14 = .ok (.aload_n 0, 1) := by decide +kernel
theorem zd_Operands_addField_15 : decode zb_Operands_addField 15 = .ok (.getfield 34, 3) := by decide +kernel
theorem zd_Operands_addField_18 : decode zb_Operands_addField 18 = .ok (.iload_n 2, 1) := by decide +kernel
theorem zd_Operands_addField_19 : decode zb_Operands_addField 19 = .ok (.iastore, 1) := by decide +kernel
theorem zd_Operands_addField_20 : decode zb_Operands_addField 20 = .ok (.aload_n 0, 1) := by decide +kernel
theorem zd_Operands_addField_21 : decode zb_Operands_addField 21 = .ok (.getfield 22, 3) := by decide +kernel
theorem zd_Operands_addField_24 : decode zb_Operands_addField 24 = .ok (.aload_n 0, 1) := by decide +kernel
theorem zd_Operands_addField_25 : decode zb_Operands_addField 25 = .ok (.getfield 34, 3) := by decide +kernel
theorem zd_Operands_addField_28 : decode zb_Operands_addField 28 = .ok (.iload_n 3, 1) := by decide +kernel
theorem zd_Operands_addField_29 : decode zb_Operands_addField 29 = .ok (.bastore, 1) := by decide +kernel
theorem zd_Operands_addField_30 : decode zb_Operands_addField 30 = .ok (.aload_n 0, 1) := by decide +kernel
theorem zd_Operands_addField_31 : decode zb_Operands_addField 31 = .ok (.dup, 1) := by decide +kernel
theorem zd_Operands_addField_32 : decode zb_Operands_addField 32 = .ok (.getfield 34, 3) := by decide +kernel
theorem zd_Operands_addField_35 : decode zb_Operands_addField 35 = .ok (.iconst 1, 1) := by decide +kernel
theorem zd_Operands_addField_36 : decode zb_Operands_addField 36 = .ok (.iadd, 1) := by decide +kernel
theorem zd_Operands_addField_37 : decode zb_Operands_addField 37 = .ok (.putfield 34, 3) := by decide +kernel
theorem zd_Operands_addField_40 : decode zb_Operands_addField 40 = .ok (.bipush 64, 2) := by decide +kernel
theorem zd_Operands_addField_42 : decode zb_Operands_addField 42 = .ok (.aload_n 0, 1) := by decide +kernel
theorem zd_Operands_addField_43 : decode zb_Operands_addField 43 = .ok (.getfield 34, 3) := by decide +kernel
theorem zd_Operands_addField_46 : decode zb_Operands_addField 46 = .ok (.iadd, 1) := by decide +kernel
theorem zd_Operands_addField_47 : decode zb_Operands_addField 47 = .ok (.iconst 1, 1) := by decide +kernel
theorem zd_Operands_addField_48 : decode zb_Operands_addField 48 = .ok (.isub, 1) := by decide +kernel
theorem zd_Operands_addField_49 : decode zb_Operands_addField 49 = .ok (.ireturn, 1) := by decide +kernel
theorem zd_Operands_has_0 : decode zb_Operands_has 0 = .ok (.iload_n 1, 1) := by decide +kernel
theorem zd_Operands_has_1 : decode zb_Operands_has 1 = .ok (.bipush 64, 2) := by decide +kernel
theorem zd_Operands_has_3 : decode zb_Operands_has 3 = .ok (.if_icmp .lt 20, 3) := by decide +kernel
theorem zd_Operands_has_6 : decode zb_Operands_has 6 = .ok (.iload_n 1, 1) := by decide +kernel
theorem zd_Operands_has_7 : decode zb_Operands_has 7 = .ok (.bipush 64, 2) := by decide +kernel
theorem zd_Operands_has_9 : decode zb_Operands_has 9 = .ok (.isub, 1) := by decide +kernel
theorem zd_Operands_has_10 : decode zb_Operands_has 10 = .ok (.aload_n 0, 1) := by decide +kernel
theorem zd_Operands_has_11 : decode zb_Operands_has 11 = .ok (.getfield 34, 3) := by decide +kernel
theorem zd_Operands_has_14 : decode zb_Operands_has 14 = .ok (.if_icmp .ge 7, 3) := by decide +kernel
theorem zd_Operands_has_17 : decode zb_Operands_has 17 = .ok (.iconst 1, 1) := by decide +kernel
theorem zd_Operands_has_18 : decode zb_Operands_has 18 = .ok (.goto 4, 3) := by decide +kernel
theorem zd_Operands_has_21 : decode zb_Operands_has 21 = .ok (.iconst 0, 1) := by decide +kernel
theorem zd_Operands_has_22 : decode zb_Operands_has 22 = .ok (.ireturn, 1) := by decide +kernel
theorem zd_Operands_has_23 : decode zb_Operands_has 23 = .ok (.iload_n 1, 1) := by decide +kernel
theorem zd_Operands_has_24 : decode zb_Operands_has 24 = .ok (.bipush 32, 2) := by decide +kernel
theorem zd_Operands_has_26 : decode zb_Operands_has 26 = .ok (.if_icmp .lt 20, 3) := by decide +kernel
theorem zd_Operands_has_29 : decode zb_Operands_has 29 = .ok (.iload_n 1, 1) := by decide +kernel
theorem zd_Operands_has_30 : decode zb_Operands_has 30 = .ok (.bipush 32, 2) := by decide +kernel
theorem zd_Operands_has_32 : decode zb_Operands_has 32 = .ok (.isub, 1) := by decide +kernel
theorem zd_Operands_has_33 : decode zb_Operands_has 33 = .ok (.aload_n 0, 1) := by decide +kernel
theorem zd_Operands_has_34 : decode zb_Operands_has 34 = .ok (.getfield 30, 3) := by decide +kernel
theorem zd_Operands_has_37 : decode zb_Operands_has 37 = .ok (.if_icmp .ge 7, 3) := by decide +kernel
theorem zd_Operands_has_40 : decode zb_Operands_has 40 = .ok (.iconst 1, 1) := by decide +kernel
theorem zd_Operands_has_41 : decode zb_Operands_has 41 = .ok (.goto 4, 3) := by decide +kernel
theorem zd_Operands_has_44 : decode zb_Operands_has 44 = .ok (.iconst 0, 1) := by decide +kernel
theorem zd_Operands_has_45 : decode zb_Operands_has 45 = .ok (.ireturn, 1) := by decide +kernel
theorem zd_Operands_has_46 : decode zb_Operands_has 46 = .ok (.aload_n 0, 1) := by decide +kernel
theorem zd_Operands_has_47 : decode zb_Operands_has 47 = .ok (.getfield 26, 3) := by decide +kernel
theorem zd_Operands_has_50 : decode zb_Operands_has 50 = .ok (.iload_n 1, 1) := by decide +kernel
theorem zd_Operands_has_51 : decode zb_Operands_has 51 = .ok (.invokevirtual 37, 3) := by decide +kernel
theorem zd_Operands_has_54 : decode zb_Operands_has 54 = .ok (.ireturn, 1) := by decide +kernel
theorem zd_Operands_read_0 : decode zb_Operands_read 0 = .ok (.iload_n 1, 1) := by decide +kernel
theorem zd_Operands_read_1 : decode zb_Operands_read 1 = .ok (.bipush 64, 2) := by decide +kernel
theorem zd_Operands_read_3 : decode zb_Operands_read 3 = .ok (.if_icmp .lt 13, 3) := by decide +kernel
theorem zd_Operands_read_6 : decode zb_Operands_read 6 = .ok (.aload_n 0, 1) := by decide +kernel
theorem zd_Operands_read_7 : decode zb_Operands_read 7 = .ok (.iload_n 1, 1) := by decide +kernel
theorem zd_Operands_read_8 : decode zb_Operands_read 8 = .ok (.bipush 64, 2) := by decide +kernel
theorem zd_Operands_read_10 : decode zb_Operands_read 10 = .ok (.isub, 1) := by decide +kernel
theorem zd_Operands_read_11 : decode zb_Operands_read 11 = .ok (.iload_n 2, 1) := by decide +kernel
theorem zd_Operands_read_12 : decode zb_Operands_read 12 = .ok (.invokevirtual 43, 3) := by decide +kernel
theorem zd_Operands_read_15 : decode zb_Operands_read 15 = .ok (.lreturn, 1) := by decide +kernel
theorem zd_Operands_read_16 : decode zb_Operands_read 16 = .ok (.iload_n 1, 1) := by decide +kernel
theorem zd_Operands_read_17 : decode zb_Operands_read 17 = .ok (.bipush 32, 2) := by decide +kernel
theorem zd_Operands_read_19 : decode zb_Operands_read 19 = .ok (.if_icmp .lt 13, 3) := by decide +kernel
theorem zd_Operands_read_22 : decode zb_Operands_read 22 = .ok (.aload_n 0, 1) := by decide +kernel
theorem zd_Operands_read_23 : decode zb_Operands_read 23 = .ok (.getfield 9, 3) := by decide +kernel
theorem zd_Operands_read_26 : decode zb_Operands_read 26 = .ok (.iload_n 1, 1) := by decide +kernel
theorem zd_Operands_read_27 : decode zb_Operands_read 27 = .ok (.bipush 32, 2) := by decide +kernel
theorem zd_Operands_read_29 : decode zb_Operands_read 29 = .ok (.isub, 1) := by decide +kernel
theorem zd_Operands_read_30 : decode zb_Operands_read 30 = .ok (.laload, 1) := by decide +kernel
theorem zd_Operands_read_31 : decode zb_Operands_read 31 = .ok (.lreturn, 1) := by decide +kernel
theorem zd_Operands_read_32 : decode zb_Operands_read 32 = .ok (.aload_n 0, 1) := by decide +kernel
theorem zd_Operands_read_33 : decode zb_Operands_read 33 = .ok (.getfield 26, 3) := by decide +kernel
theorem zd_Operands_read_36 : decode zb_Operands_read 36 = .ok (.iload_n 1, 1) := by decide +kernel
theorem zd_Operands_read_37 : decode zb_Operands_read 37 = .ok (.invokevirtual 47, 3) := by decide +kernel
theorem zd_Operands_read_40 : decode zb_Operands_read 40 = .ok (.lreturn, 1) := by decide +kernel
theorem zd_Operands_readField_0 : decode zb_Operands_readField 0 = .ok (.bipush 63, 2) := by decide +kernel
theorem zd_Operands_readField_2 : decode zb_Operands_readField 2 = .ok (.aload_n 0, 1) := by decide +kernel
theorem zd_Operands_readField_3 : decode zb_Operands_readField 3 = .ok (.getfield 19, 3) := by decide +kernel
theorem zd_Operands_readField_6 : decode zb_Operands_readField 6 = .ok (.iload_n 1, 1) := by decide +kernel
theorem zd_Operands_readField_7 : decode zb_Operands_readField 7 = .ok (.iaload, 1) := by decide +kernel
theorem zd_Operands_readField_8 : decode zb_Operands_readField 8 = .ok (.isub, 1) := by decide +kernel
theorem zd_Operands_readField_9 : decode zb_Operands_readField 9 = .ok (.istore_n 3, 1) := by decide +kernel
theorem zd_Operands_readField_10 : decode zb_Operands_readField 10 = .ok (.iload_n 3, 1) := by decide +kernel
theorem zd_Operands_readField_11 : decode zb_Operands_readField 11 = .ok (.aload_n 0, 1) := by decide +kernel
theorem zd_Operands_readField_12 : decode zb_Operands_readField 12 = .ok (.getfield 15, 3) := by decide +kernel
theorem zd_Operands_readField_15 : decode zb_Operands_readField 15 = .ok (.iload_n 1, 1) := by decide +kernel
theorem zd_Operands_readField_16 : decode zb_Operands_readField 16 = .ok (.iaload, 1) := by decide +kernel
theorem zd_Operands_readField_17 : decode zb_Operands_readField 17 = .ok (.iadd, 1) := by decide +kernel
theorem zd_Operands_readField_18 : decode zb_Operands_readField 18 = .ok (.istore 4, 2) := by decide +kernel
theorem zd_Operands_readField_20 : decode zb_Operands_readField 20 = .ok (.iload_n 2, 1) := by decide +kernel
theorem zd_Operands_readField_21 : decode zb_Operands_readField 21 = .ok (.i2l, 1) := by decide +kernel
theorem zd_Operands_readField_22 : decode zb_Operands_readField 22 = .ok (.iload_n 3, 1) := by decide +kernel
theorem zd_Operands_readField_23 : decode zb_Operands_readField 23 = .ok (.lshl, 1) := by decide +kernel
theorem zd_Operands_readField_24 : decode zb_Operands_readField 24 = .ok (.lstore 5, 2) := by decide +kernel
theorem zd_Operands_readField_26 : decode zb_Operands_readField 26 = .ok (.aload_n 0, 1) := by decide +kernel
theorem zd_Operands_readField_27 : decode zb_Operands_readField 27 = .ok (.getfield 22, 3) := by decide +kernel
theorem zd_Operands_readField_30 : decode zb_Operands_readField 30 = .ok (.iload_n 1, 1) := by decide +kernel
theorem zd_Operands_readField_31 : decode zb_Operands_readField 31 = .ok (.baload, 1) := by decide +kernel
theorem zd_Operands_readField_32 : decode zb_Operands_readField 32 = .ok (.ifCond .eq 11, 3) := by decide +kernel
theorem zd_Operands_readField_35 : decode zb_Operands_readField 35 = .ok (.lload 5, 2) := by decide +kernel
theorem zd_Operands_readField_37 : decode zb_Operands_readField 37 = .ok (.iload 4, 2) := by decide +kernel
theorem zd_Operands_readField_39 : decode zb_Operands_readField 39 = .ok (.lshr, 1) := by decide +kernel
theorem zd_Operands_readField_40 : decode zb_Operands_readField 40 = .ok (.goto 8, 3) := by decide +kernel
theorem zd_Operands_readField_43 : decode zb_Operands_readField 43 = .ok (.lload 5, 2) := by decide +kernel
theorem zd_Operands_readField_45 : decode zb_Operands_readField 45 = .ok (.iload 4, 2) := by decide +kernel
theorem zd_Operands_readField_47 : decode zb_Operands_readField 47 = .ok (.lushr, 1) := by decide +kernel
theorem zd_Operands_readField_48 : decode zb_Operands_readField 48 = .ok (.lreturn, 1) := by decide +kernel
theorem zd_Operands_isMarked_0 : decode zb_Operands_isMarked 0 = .ok (.iload_n 1, 1) := by decide +kernel
theorem zd_Operands_isMarked_1 : decode zb_Operands_isMarked 1 = .ok (.bipush 32, 2) := by decide +kernel
theorem zd_Operands_isMarked_3 : decode zb_Operands_isMarked 3 = .ok (.if_icmp .ge 18, 3) := by decide +kernel
theorem zd_Operands_isMarked_6 : decode zb_Operands_isMarked 6 = .ok (.aload_n 0, 1) := by decide +kernel
theorem zd_Operands_isMarked_7 : decode zb_Operands_isMarked 7 = .ok (.getfield 26, 3) := by decide +kernel
theorem zd_Operands_isMarked_10 : decode zb_Operands_isMarked 10 = .ok (.iload_n 1, 1) := by decide +kernel
theorem zd_Operands_isMarked_11 : decode zb_Operands_isMarked 11 = .ok (.invokevirtual 51, 3) := by decide +kernel
theorem zd_Operands_isMarked_14 : decode zb_Operands_isMarked 14 = .ok (.ifCond .eq 7, 3) := by decide +kernel
theorem zd_Operands_isMarked_17 : decode zb_Operands_isMarked 17 = .ok (.iconst 1, 1) := by decide +kernel
theorem zd_Operands_isMarked_18 : decode zb_Operands_isMarked 18 = .ok (.goto 4, 3) := by decide +kernel
theorem zd_Operands_isMarked_21 : decode zb_Operands_isMarked 21 = .ok (.iconst 0, 1) := by decide +kernel
theorem zd_Operands_isMarked_22 : decode zb_Operands_isMarked 22 = .ok (.ireturn, 1) := by decide +kernel
theorem zd_Program_init_0 : decode zb_Program_init 0 = .ok (.aload_n 0, 1) := by decide +kernel
theorem zd_Program_init_1 : decode zb_Program_init 1 = .ok (.invokespecial 3, 3) := by decide +kernel
theorem zd_Program_init_4 : decode zb_Program_init 4 = .ok (.aload_n 0, 1) := by decide +kernel
theorem zd_Program_init_5 : decode zb_Program_init 5 = .ok (.sipush 200, 3) := by decide +kernel
theorem zd_Program_init_8 : decode zb_Program_init 8 = .ok (.newarray .int, 2) := by decide +kernel
theorem zd_Program_init_10 : decode zb_Program_init 10 = .ok (.putfield 9, 3) := by decide +kernel
theorem zd_Program_init_13 : decode zb_Program_init 13 = .ok (.aload_n 0, 1) := by decide +kernel
theorem zd_Program_init_14 : decode zb_Program_init 14 = .ok (.sipush 200, 3) := by decide +kernel
theorem zd_Program_init_17 : decode zb_Program_init 17 = .ok (.newarray .int, 2) := by decide +kernel
theorem zd_Program_init_19 : decode zb_Program_init 19 = .ok (.putfield 15, 3) := by decide +kernel
theorem zd_Program_init_22 : decode zb_Program_init 22 = .ok (.aload_n 0, 1) := by decide +kernel
theorem zd_Program_init_23 : decode zb_Program_init 23 = .ok (.sipush 200, 3) := by decide +kernel
theorem zd_Program_init_26 : decode zb_Program_init 26 = .ok (.newarray .int, 2) := by decide +kernel
theorem zd_Program_init_28 : decode zb_Program_init 28 = .ok (.putfield 18, 3) := by decide +kernel
theorem zd_Program_init_31 : decode zb_Program_init 31 = .ok (.aload_n 0, 1) := by decide +kernel
theorem zd_Program_init_32 : decode zb_Program_init 32 = .ok (.sipush 200, 3) := by decide +kernel
theorem zd_Program_init_35 : decode zb_Program_init 35 = .ok (.newarray .int, 2) := by decide +kernel
theorem zd_Program_init_37 : decode zb_Program_init 37 = .ok (.putfield 21, 3) := by decide +kernel
theorem zd_Program_init_40 : decode zb_Program_init 40 = .ok (.aload_n 0, 1) := by decide +kernel
theorem zd_Program_init_41 : decode zb_Program_init 41 = .ok (.bipush 40, 2) := by decide +kernel
theorem zd_Program_init_43 : decode zb_Program_init 43 = .ok (.newarray .int, 2) := by decide +kernel
theorem zd_Program_init_45 : decode zb_Program_init 45 = .ok (.putfield 24, 3) := by decide +kernel
theorem zd_Program_init_48 : decode zb_Program_init 48 = .ok (.aload_n 0, 1) := by decide +kernel
theorem zd_Program_init_49 : decode zb_Program_init 49 = .ok (.bipush 40, 2) := by decide +kernel
theorem zd_Program_init_51 : decode zb_Program_init 51 = .ok (.newarray .int, 2) := by decide +kernel
theorem zd_Program_init_53 : decode zb_Program_init 53 = .ok (.putfield 27, 3) := by decide +kernel
theorem zd_Program_init_56 : decode zb_Program_init 56 = .ok (.aload_n 0, 1) := by decide +kernel
theorem zd_Program_init_57 : decode zb_Program_init 57 = .ok (.bipush 40, 2) := by decide +kernel
theorem zd_Program_init_59 : decode zb_Program_init 59 = .ok (.newarray .int, 2) := by decide +kernel
theorem zd_Program_init_61 : decode zb_Program_init 61 = .ok (.putfield 30, 3) := by decide +kernel
theorem zd_Program_init_64 : decode zb_Program_init 64 = .ok (.aload_n 0, 1) := by decide +kernel
theorem zd_Program_init_65 : decode zb_Program_init 65 = .ok (.bipush 40, 2) := by decide +kernel
theorem zd_Program_init_67 : decode zb_Program_init 67 = .ok (.newarray .int, 2) := by decide +kernel
theorem zd_Program_init_69 : decode zb_Program_init 69 = .ok (.putfield 33, 3) := by decide +kernel
theorem zd_Program_init_72 : decode zb_Program_init 72 = .ok (.aload_n 0, 1) := by decide +kernel
theorem zd_Program_init_73 : decode zb_Program_init 73 = .ok (.bipush 40, 2) := by decide +kernel
theorem zd_Program_init_75 : decode zb_Program_init 75 = .ok (.newarray .int, 2) := by decide +kernel
theorem zd_Program_init_77 : decode zb_Program_init 77 = .ok (.putfield 36, 3) := by decide +kernel
theorem zd_Program_init_80 : decode zb_Program_init 80 = .ok (.return_, 1) := by decide +kernel
theorem zd_Program_addTransfer_0 : decode zb_Program_addTransfer 0 = .ok (.aload_n 0, 1) := by decide +kernel
theorem zd_Program_addTransfer_1 : decode zb_Program_addTransfer 1 = .ok (.getfield 9, 3) := by decide +kernel
theorem zd_Program_addTransfer_4 : decode zb_Program_addTransfer 4 = .ok (.aload_n 0, 1) := by decide +kernel
theorem zd_Program_addTransfer_5 : decode zb_Program_addTransfer 5 = .ok (.getfield 39, 3) := by decide +kernel
theorem zd_Program_addTransfer_8 : decode zb_Program_addTransfer 8 = .ok (.iload_n 1, 1) := by decide +kernel
theorem zd_Program_addTransfer_9 : decode zb_Program_addTransfer 9 = .ok (.iastore, 1) := by decide +kernel
theorem zd_Program_addTransfer_10 : decode zb_Program_addTransfer 10 = .ok (.aload_n 0, 1) := by decide +kernel
theorem zd_Program_addTransfer_11 : decode zb_Program_addTransfer 11 = .ok (.getfield 15, 3) := by decide +kernel
theorem zd_Program_addTransfer_14 : decode zb_Program_addTransfer 14 = .ok (.aload_n 0, 1) := by decide +kernel
theorem zd_Program_addTransfer_15 : decode zb_Program_addTransfer 15 = .ok (.getfield 39, 3) := by decide +kernel
theorem zd_Program_addTransfer_18 : decode zb_Program_addTransfer 18 = .ok (.iload_n 2, 1) := by decide +kernel
theorem zd_Program_addTransfer_19 : decode zb_Program_addTransfer 19 = .ok (.iastore, 1) := by decide +kernel
theorem zd_Program_addTransfer_20 : decode zb_Program_addTransfer 20 = .ok (.aload_n 0, 1) := by decide +kernel
theorem zd_Program_addTransfer_21 : decode zb_Program_addTransfer 21 = .ok (.getfield 18, 3) := by decide +kernel
theorem zd_Program_addTransfer_24 : decode zb_Program_addTransfer 24 = .ok (.aload_n 0, 1) := by decide +kernel
theorem zd_Program_addTransfer_25 : decode zb_Program_addTransfer 25 = .ok (.getfield 39, 3) := by decide +kernel
theorem zd_Program_addTransfer_28 : decode zb_Program_addTransfer 28 = .ok (.iload_n 3, 1) := by decide +kernel
theorem zd_Program_addTransfer_29 : decode zb_Program_addTransfer 29 = .ok (.iastore, 1) := by decide +kernel
theorem zd_Program_addTransfer_30 : decode zb_Program_addTransfer 30 = .ok (.aload_n 0, 1) := by decide +kernel
theorem zd_Program_addTransfer_31 : decode zb_Program_addTransfer 31 = .ok (.getfield 21, 3) := by decide +kernel
theorem zd_Program_addTransfer_34 : decode zb_Program_addTransfer 34 = .ok (.aload_n 0, 1) := by decide +kernel
theorem zd_Program_addTransfer_35 : decode zb_Program_addTransfer 35 = .ok (.getfield 39, 3) := by decide +kernel
theorem zd_Program_addTransfer_38 : decode zb_Program_addTransfer 38 = .ok (.iload 4, 2) := by decide +kernel
theorem zd_Program_addTransfer_40 : decode zb_Program_addTransfer 40 = .ok (.iastore, 1) := by decide +kernel
theorem zd_Program_addTransfer_41 : decode zb_Program_addTransfer 41 = .ok (.aload_n 0, 1) := by decide +kernel
theorem zd_Program_addTransfer_42 : decode zb_Program_addTransfer 42 = .ok (.dup, 1) := by decide +kernel
theorem zd_Program_addTransfer_43 : decode zb_Program_addTransfer 43 = .ok (.getfield 39, 3) := by decide +kernel
theorem zd_Program_addTransfer_46 : decode zb_Program_addTransfer 46 = .ok (.iconst 1, 1) := by decide +kernel
theorem zd_Program_addTransfer_47 : decode zb_Program_addTransfer 47 = .ok (.iadd, 1) := by decide +kernel
theorem zd_Program_addTransfer_48 : decode zb_Program_addTransfer 48 = .ok (.putfield 39, 3) := by decide +kernel
theorem zd_Program_addTransfer_51 : decode zb_Program_addTransfer 51 = .ok (.aload_n 0, 1) := by decide +kernel
theorem zd_Program_addTransfer_52 : decode zb_Program_addTransfer 52 = .ok (.getfield 39, 3) := by decide +kernel
theorem zd_Program_addTransfer_55 : decode zb_Program_addTransfer 55 = .ok (.ireturn, 1) := by decide +kernel
theorem zd_Program_addInstruction_0 : decode zb_Program_addInstruction 0 = .ok (.aload_n 0, 1) := by decide +kernel
theorem zd_Program_addInstruction_1 : decode zb_Program_addInstruction 1 = .ok (.getfield 24, 3) := by decide +kernel
theorem zd_Program_addInstruction_4 : decode zb_Program_addInstruction 4 = .ok (.aload_n 0, 1) := by decide +kernel
theorem zd_Program_addInstruction_5 : decode zb_Program_addInstruction 5 = .ok (.getfield 43, 3) := by decide +kernel
theorem zd_Program_addInstruction_8 : decode zb_Program_addInstruction 8 = .ok (.iload_n 1, 1) := by decide +kernel
theorem zd_Program_addInstruction_9 : decode zb_Program_addInstruction 9 = .ok (.iastore, 1) := by decide +kernel
theorem zd_Program_addInstruction_10 : decode zb_Program_addInstruction 10 = .ok (.aload_n 0, 1) := by decide +kernel
theorem zd_Program_addInstruction_11 : decode zb_Program_addInstruction 11 = .ok (.getfield 27, 3) := by decide +kernel
theorem zd_Program_addInstruction_14 : decode zb_Program_addInstruction 14 = .ok (.aload_n 0, 1) := by decide +kernel
theorem zd_Program_addInstruction_15 : decode zb_Program_addInstruction 15 = .ok (.getfield 43, 3) := by decide +kernel
theorem zd_Program_addInstruction_18 : decode zb_Program_addInstruction 18 = .ok (.iload_n 2, 1) := by decide +kernel
theorem zd_Program_addInstruction_19 : decode zb_Program_addInstruction 19 = .ok (.iastore, 1) := by decide +kernel
theorem zd_Program_addInstruction_20 : decode zb_Program_addInstruction 20 = .ok (.aload_n 0, 1) := by decide +kernel
theorem zd_Program_addInstruction_21 : decode zb_Program_addInstruction 21 = .ok (.getfield 30, 3) := by decide +kernel
theorem zd_Program_addInstruction_24 : decode zb_Program_addInstruction 24 = .ok (.aload_n 0, 1) := by decide +kernel
theorem zd_Program_addInstruction_25 : decode zb_Program_addInstruction 25 = .ok (.getfield 43, 3) := by decide +kernel
theorem zd_Program_addInstruction_28 : decode zb_Program_addInstruction 28 = .ok (.iload_n 3, 1) := by decide +kernel
theorem zd_Program_addInstruction_29 : decode zb_Program_addInstruction 29 = .ok (.iastore, 1) := by decide +kernel
theorem zd_Program_addInstruction_30 : decode zb_Program_addInstruction 30 = .ok (.aload_n 0, 1) := by decide +kernel
theorem zd_Program_addInstruction_31 : decode zb_Program_addInstruction 31 = .ok (.getfield 33, 3) := by decide +kernel
theorem zd_Program_addInstruction_34 : decode zb_Program_addInstruction 34 = .ok (.aload_n 0, 1) := by decide +kernel
theorem zd_Program_addInstruction_35 : decode zb_Program_addInstruction 35 = .ok (.getfield 43, 3) := by decide +kernel
theorem zd_Program_addInstruction_38 : decode zb_Program_addInstruction 38 = .ok (.aload_n 0, 1) := by decide +kernel
theorem zd_Program_addInstruction_39 : decode zb_Program_addInstruction 39 = .ok (.getfield 43, 3) := by decide +kernel
theorem zd_Program_addInstruction_42 : decode zb_Program_addInstruction 42 = .ok (.ifCond .ne 7, 3) := by decide +kernel
theorem zd_Program_addInstruction_45 : decode zb_Program_addInstruction 45 = .ok (.iconst 0, 1) := by decide +kernel
theorem zd_Program_addInstruction_46 : decode zb_Program_addInstruction 46 = .ok (.goto 14, 3) := by decide +kernel
theorem zd_Program_addInstruction_49 : decode zb_Program_addInstruction 49 = .ok (.aload_n 0, 1) := by decide +kernel
theorem zd_Program_addInstruction_50 : decode zb_Program_addInstruction 50 = .ok (.getfield 36, 3) := by decide +kernel
theorem zd_Program_addInstruction_53 : decode zb_Program_addInstruction 53 = .ok (.aload_n 0, 1) := by decide +kernel
theorem zd_Program_addInstruction_54 : decode zb_Program_addInstruction 54 = .ok (.getfield 43, 3) := by decide +kernel
theorem zd_Program_addInstruction_57 : decode zb_Program_addInstruction 57 = .ok (.iconst 1, 1) := by decide +kernel
theorem zd_Program_addInstruction_58 : decode zb_Program_addInstruction 58 = .ok (.isub, 1) := by decide +kernel
theorem zd_Program_addInstruction_59 : decode zb_Program_addInstruction 59 = .ok (.iaload, 1) := by decide +kernel
theorem zd_Program_addInstruction_60 : decode zb_Program_addInstruction 60 = .ok (.iastore, 1) := by decide +kernel
theorem zd_Program_addInstruction_61 : decode zb_Program_addInstruction 61 = .ok (.aload_n 0, 1) := by decide +kernel
theorem zd_Program_addInstruction_62 : decode zb_Program_addInstruction 62 = .ok (.getfield 36, 3) := by decide +kernel
theorem zd_Program_addInstruction_65 : decode zb_Program_addInstruction 65 = .ok (.aload_n 0, 1) := by decide +kernel
theorem zd_Program_addInstruction_66 : decode zb_Program_addInstruction 66 = .ok (.getfield 43, 3) := by decide +kernel
theorem zd_Program_addInstruction_69 : decode zb_Program_addInstruction 69 = .ok (.aload_n 0, 1) := by decide +kernel
theorem zd_Program_addInstruction_70 : decode zb_Program_addInstruction 70 = .ok (.getfield 39, 3) := by decide +kernel
theorem zd_Program_addInstruction_73 : decode zb_Program_addInstruction 73 = .ok (.iastore, 1) := by decide +kernel
theorem zd_Program_addInstruction_74 : decode zb_Program_addInstruction 74 = .ok (.aload_n 0, 1) := by decide +kernel
theorem zd_Program_addInstruction_75 : decode zb_Program_addInstruction 75 = .ok (.dup, 1) := by decide +kernel
theorem zd_Program_addInstruction_76 : decode zb_Program_addInstruction 76 = .ok (.getfield 43, 3) := by decide +kernel
theorem zd_Program_addInstruction_79 : decode zb_Program_addInstruction 79 = .ok (.iconst 1, 1) := by decide +kernel
theorem zd_Program_addInstruction_80 : decode zb_Program_addInstruction 80 = .ok (.iadd, 1) := by decide +kernel
theorem zd_Program_addInstruction_81 : decode zb_Program_addInstruction 81 = .ok (.putfield 43, 3) := by decide +kernel
theorem zd_Program_addInstruction_84 : decode zb_Program_addInstruction 84 = .ok (.aload_n 0, 1) := by decide +kernel
theorem zd_Program_addInstruction_85 : decode zb_Program_addInstruction 85 = .ok (.getfield 43, 3) := by decide +kernel
theorem zd_Program_addInstruction_88 : decode zb_Program_addInstruction 88 = .ok (.iconst 1, 1) := by decide +kernel
theorem zd_Program_addInstruction_89 : decode zb_Program_addInstruction 89 = .ok (.isub, 1) := by decide +kernel
theorem zd_Program_addInstruction_90 : decode zb_Program_addInstruction 90 = .ok (.ireturn, 1) := by decide +kernel
theorem zd_Program_find_0 : decode zb_Program_find 0 = .ok (.iconst 0, 1) := by decide +kernel
theorem zd_Program_find_1 : decode zb_Program_find 1 = .ok (.istore_n 2, 1) := by decide +kernel
theorem zd_Program_find_2 : decode zb_Program_find 2 = .ok (.iload_n 2, 1) := by decide +kernel
theorem zd_Program_find_3 : decode zb_Program_find 3 = .ok (.aload_n 0, 1) := by decide +kernel
theorem zd_Program_find_4 : decode zb_Program_find 4 = .ok (.getfield 43, 3) := by decide +kernel
theorem zd_Program_find_7 : decode zb_Program_find 7 = .ok (.if_icmp .ge 28, 3) := by decide +kernel
theorem zd_Program_find_10 : decode zb_Program_find 10 = .ok (.iload_n 1, 1) := by decide +kernel
theorem zd_Program_find_11 : decode zb_Program_find 11 = .ok (.aload_n 0, 1) := by decide +kernel
theorem zd_Program_find_12 : decode zb_Program_find 12 = .ok (.getfield 24, 3) := by decide +kernel
theorem zd_Program_find_15 : decode zb_Program_find 15 = .ok (.iload_n 2, 1) := by decide +kernel
theorem zd_Program_find_16 : decode zb_Program_find 16 = .ok (.iaload, 1) := by decide +kernel
theorem zd_Program_find_17 : decode zb_Program_find 17 = .ok (.iand, 1) := by decide +kernel
theorem zd_Program_find_18 : decode zb_Program_find 18 = .ok (.aload_n 0, 1) := by decide +kernel
theorem zd_Program_find_19 : decode zb_Program_find 19 = .ok (.getfield 27, 3) := by decide +kernel
theorem zd_Program_find_22 : decode zb_Program_find 22 = .ok (.iload_n 2, 1) := by decide +kernel
theorem zd_Program_find_23 : decode zb_Program_find 23 = .ok (.iaload, 1) := by decide +kernel
theorem zd_Program_find_24 : decode zb_Program_find 24 = .ok (.if_icmp .ne 5, 3) := by decide +kernel
theorem zd_Program_find_27 : decode zb_Program_find 27 = .ok (.iload_n 2, 1) := by decide +kernel
theorem zd_Program_find_28 : decode zb_Program_find 28 = .ok (.ireturn, 1) := by decide +kernel
theorem zd_Program_find_29 : decode zb_Program_find 29 = .ok (.iinc 2 1, 3) := by decide +kernel
theorem zd_Program_find_32 : decode zb_Program_find 32 = .ok (.goto (-30), 3) := by decide +kernel
theorem zd_Program_find_35 : decode zb_Program_find 35 = .ok (.iconst (-1), 1) := by decide +kernel
theorem zd_Program_find_36 : decode zb_Program_find 36 = .ok (.ireturn, 1) := by decide +kernel
theorem zd_Program_is_0 : decode zb_Program_is 0 = .ok (.aload_n 0, 1) := by decide +kernel
theorem zd_Program_is_1 : decode zb_Program_is 1 = .ok (.getfield 30, 3) := by decide +kernel
theorem zd_Program_is_4 : decode zb_Program_is 4 = .ok (.iload_n 1, 1) := by decide +kernel
theorem zd_Program_is_5 : decode zb_Program_is 5 = .ok (.iaload, 1) := by decide +kernel
theorem zd_Program_is_6 : decode zb_Program_is 6 = .ok (.iload_n 2, 1) := by decide +kernel
theorem zd_Program_is_7 : decode zb_Program_is 7 = .ok (.iand, 1) := by decide +kernel
theorem zd_Program_is_8 : decode zb_Program_is 8 = .ok (.ifCond .eq 7, 3) := by decide +kernel
theorem zd_Program_is_11 : decode zb_Program_is 11 = .ok (.iconst 1, 1) := by decide +kernel
theorem zd_Program_is_12 : decode zb_Program_is 12 = .ok (.goto 4, 3) := by decide +kernel
theorem zd_Program_is_15 : decode zb_Program_is 15 = .ok (.iconst 0, 1) := by decide +kernel
theorem zd_Program_is_16 : decode zb_Program_is 16 = .ok (.ireturn, 1) := by decide +kernel
theorem zd_Kept_init_0 : decode zb_Kept_init 0 = .ok (.aload_n 0, 1) := by decide +kernel
theorem zd_Kept_init_1 : decode zb_Kept_init 1 = .ok (.invokespecial 3, 3) := by decide +kernel
theorem zd_Kept_init_4 : decode zb_Kept_init 4 = .ok (.aload_n 0, 1) := by decide +kernel
theorem zd_Kept_init_5 : decode zb_Kept_init 5 = .ok (.bipush 8, 2) := by decide +kernel
theorem zd_Kept_init_7 : decode zb_Kept_init 7 = .ok (.newarray .int, 2) := by decide +kernel
theorem zd_Kept_init_9 : decode zb_Kept_init 9 = .ok (.putfield 9, 3) := by decide +kernel
theorem zd_Kept_init_12 : decode zb_Kept_init 12 = .ok (.aload_n 0, 1) := by decide +kernel
theorem zd_Kept_init_13 : decode zb_Kept_init 13 = .ok (.bipush 8, 2) := by decide +kernel
theorem zd_Kept_init_15 : decode zb_Kept_init 15 = .ok (.newarray .int, 2) := by decide +kernel
theorem zd_Kept_init_17 : decode zb_Kept_init 17 = .ok (.putfield 15, 3) := by decide +kernel
theorem zd_Kept_init_20 : decode zb_Kept_init 20 = .ok (.return_, 1) := by decide +kernel
theorem zd_Kept_isFull_0 : decode zb_Kept_isFull 0 = .ok (.aload_n 0, 1) := by decide +kernel
theorem zd_Kept_isFull_1 : decode zb_Kept_isFull 1 = .ok (.getfield 18, 3) := by decide +kernel
theorem zd_Kept_isFull_4 : decode zb_Kept_isFull 4 = .ok (.bipush 8, 2) := by decide +kernel
theorem zd_Kept_isFull_6 : decode zb_Kept_isFull 6 = .ok (.if_icmp .lt 7, 3) := by decide +kernel
theorem zd_Kept_isFull_9 : decode zb_Kept_isFull 9 = .ok (.iconst 1, 1) := by decide +kernel
theorem zd_Kept_isFull_10 : decode zb_Kept_isFull 10 = .ok (.goto 4, 3) := by decide +kernel
theorem zd_Kept_isFull_13 : decode zb_Kept_isFull 13 = .ok (.iconst 0, 1) := by decide +kernel
theorem zd_Kept_isFull_14 : decode zb_Kept_isFull 14 = .ok (.ireturn, 1) := by decide +kernel
theorem zd_Kept_keep_0 : decode zb_Kept_keep 0 = .ok (.aload_n 0, 1) := by decide +kernel
theorem zd_Kept_keep_1 : decode zb_Kept_keep 1 = .ok (.getfield 9, 3) := by decide +kernel
theorem zd_Kept_keep_4 : decode zb_Kept_keep 4 = .ok (.aload_n 0, 1) := by decide +kernel
theorem zd_Kept_keep_5 : decode zb_Kept_keep 5 = .ok (.getfield 18, 3) := by decide +kernel
theorem zd_Kept_keep_8 : decode zb_Kept_keep 8 = .ok (.iload_n 1, 1) := by decide +kernel
theorem zd_Kept_keep_9 : decode zb_Kept_keep 9 = .ok (.iastore, 1) := by decide +kernel
theorem zd_Kept_keep_10 : decode zb_Kept_keep 10 = .ok (.aload_n 0, 1) := by decide +kernel
theorem zd_Kept_keep_11 : decode zb_Kept_keep 11 = .ok (.getfield 15, 3) := by decide +kernel
theorem zd_Kept_keep_14 : decode zb_Kept_keep 14 = .ok (.aload_n 0, 1) := by decide +kernel
theorem zd_Kept_keep_15 : decode zb_Kept_keep 15 = .ok (.getfield 18, 3) := by decide +kernel
theorem zd_Kept_keep_18 : decode zb_Kept_keep 18 = .ok (.aload_n 0, 1) := by decide +kernel
theorem zd_Kept_keep_19 : decode zb_Kept_keep 19 = .ok (.getfield 22, 3) := by decide +kernel
theorem zd_Kept_keep_22 : decode zb_Kept_keep 22 = .ok (.iastore, 1) := by decide +kernel
theorem zd_Kept_keep_23 : decode zb_Kept_keep 23 = .ok (.aload_n 0, 1) := by decide +kernel
theorem zd_Kept_keep_24 : decode zb_Kept_keep 24 = .ok (.dup, 1) := by decide +kernel
theorem zd_Kept_keep_25 : decode zb_Kept_keep 25 = .ok (.getfield 18, 3) := by decide +kernel
theorem zd_Kept_keep_28 : decode zb_Kept_keep 28 = .ok (.iconst 1, 1) := by decide +kernel
theorem zd_Kept_keep_29 : decode zb_Kept_keep 29 = .ok (.iadd, 1) := by decide +kernel
theorem zd_Kept_keep_30 : decode zb_Kept_keep 30 = .ok (.putfield 18, 3) := by decide +kernel
theorem zd_Kept_keep_33 : decode zb_Kept_keep 33 = .ok (.aload_n 0, 1) := by decide +kernel
theorem zd_Kept_keep_34 : decode zb_Kept_keep 34 = .ok (.iload_n 2, 1) := by decide +kernel
theorem zd_Kept_keep_35 : decode zb_Kept_keep 35 = .ok (.putfield 22, 3) := by decide +kernel
theorem zd_Kept_keep_38 : decode zb_Kept_keep 38 = .ok (.return_, 1) := by decide +kernel
theorem zd_Kept_goBack_0 : decode zb_Kept_goBack 0 = .ok (.aload_n 0, 1) := by decide +kernel
theorem zd_Kept_goBack_1 : decode zb_Kept_goBack 1 = .ok (.getfield 18, 3) := by decide +kernel
theorem zd_Kept_goBack_4 : decode zb_Kept_goBack 4 = .ok (.ifCond .gt 5, 3) := by decide +kernel
theorem zd_Kept_goBack_7 : decode zb_Kept_goBack 7 = .ok (.iconst (-1), 1) := by decide +kernel
theorem zd_Kept_goBack_8 : decode zb_Kept_goBack 8 = .ok (.ireturn, 1) := by decide +kernel
theorem zd_Kept_goBack_9 : decode zb_Kept_goBack 9 = .ok (.aload_n 0, 1) := by decide +kernel
theorem zd_Kept_goBack_10 : decode zb_Kept_goBack 10 = .ok (.dup, 1) := by decide +kernel
theorem zd_Kept_goBack_11 : decode zb_Kept_goBack 11 = .ok (.getfield 18, 3) := by decide +kernel
theorem zd_Kept_goBack_14 : decode zb_Kept_goBack 14 = .ok (.iconst 1, 1) := by decide +kernel
theorem zd_Kept_goBack_15 : decode zb_Kept_goBack 15 = .ok (.isub, 1) := by decide +kernel
theorem zd_Kept_goBack_16 : decode zb_Kept_goBack 16 = .ok (.putfield 18, 3) := by decide +kernel
theorem zd_Kept_goBack_19 : decode zb_Kept_goBack 19 = .ok (.aload_n 0, 1) := by decide +kernel
theorem zd_Kept_goBack_20 : decode zb_Kept_goBack 20 = .ok (.aload_n 0, 1) := by decide +kernel
theorem zd_Kept_goBack_21 : decode zb_Kept_goBack 21 = .ok (.getfield 15, 3) := by decide +kernel
theorem zd_Kept_goBack_24 : decode zb_Kept_goBack 24 = .ok (.aload_n 0, 1) := by decide +kernel
theorem zd_Kept_goBack_25 : decode zb_Kept_goBack 25 = .ok (.getfield 18, 3) := by decide +kernel
theorem zd_Kept_goBack_28 : decode zb_Kept_goBack 28 = .ok (.iaload, 1) := by decide +kernel
theorem zd_Kept_goBack_29 : decode zb_Kept_goBack 29 = .ok (.putfield 22, 3) := by decide +kernel
theorem zd_Kept_goBack_32 : decode zb_Kept_goBack 32 = .ok (.aload_n 0, 1) := by decide +kernel
theorem zd_Kept_goBack_33 : decode zb_Kept_goBack 33 = .ok (.getfield 9, 3) := by decide +kernel
theorem zd_Kept_goBack_36 : decode zb_Kept_goBack 36 = .ok (.aload_n 0, 1) := by decide +kernel
theorem zd_Kept_goBack_37 : decode zb_Kept_goBack 37 = .ok (.getfield 18, 3) := by decide +kernel
theorem zd_Kept_goBack_40 : decode zb_Kept_goBack 40 = .ok (.iaload, 1) := by decide +kernel
theorem zd_Kept_goBack_41 : decode zb_Kept_goBack 41 = .ok (.ireturn, 1) := by decide +kernel
theorem zd_Kept_restore_0 : decode zb_Kept_restore 0 = .ok (.aload_n 0, 1) := by decide +kernel
theorem zd_Kept_restore_1 : decode zb_Kept_restore 1 = .ok (.iload_n 1, 1) := by decide +kernel
theorem zd_Kept_restore_2 : decode zb_Kept_restore 2 = .ok (.putfield 18, 3) := by decide +kernel
theorem zd_Kept_restore_5 : decode zb_Kept_restore 5 = .ok (.aload_n 0, 1) := by decide +kernel
theorem zd_Kept_restore_6 : decode zb_Kept_restore 6 = .ok (.iload_n 2, 1) := by decide +kernel
theorem zd_Kept_restore_7 : decode zb_Kept_restore 7 = .ok (.putfield 22, 3) := by decide +kernel
theorem zd_Kept_restore_10 : decode zb_Kept_restore 10 = .ok (.return_, 1) := by decide +kernel
theorem zd_Lines_init_0 : decode zb_Lines_init 0 = .ok (.aload_n 0, 1) := by decide +kernel
theorem zd_Lines_init_1 : decode zb_Lines_init 1 = .ok (.invokespecial 3, 3) := by decide +kernel
theorem zd_Lines_init_4 : decode zb_Lines_init 4 = .ok (.aload_n 0, 1) := by decide +kernel
theorem zd_Lines_init_5 : decode zb_Lines_init 5 = .ok (.bipush 8, 2) := by decide +kernel
theorem zd_Lines_init_7 : decode zb_Lines_init 7 = .ok (.newarray .boolean, 2) := by decide +kernel
theorem zd_Lines_init_9 : decode zb_Lines_init 9 = .ok (.putfield 9, 3) := by decide +kernel
theorem zd_Lines_init_12 : decode zb_Lines_init 12 = .ok (.aload_n 0, 1) := by decide +kernel
theorem zd_Lines_init_13 : decode zb_Lines_init 13 = .ok (.bipush 8, 2) := by decide +kernel
theorem zd_Lines_init_15 : decode zb_Lines_init 15 = .ok (.newarray .int, 2) := by decide +kernel
theorem zd_Lines_init_17 : decode zb_Lines_init 17 = .ok (.putfield 15, 3) := by decide +kernel
theorem zd_Lines_init_20 : decode zb_Lines_init 20 = .ok (.iconst 0, 1) := by decide +kernel
theorem zd_Lines_init_21 : decode zb_Lines_init 21 = .ok (.istore_n 1, 1) := by decide +kernel
theorem zd_Lines_init_22 : decode zb_Lines_init 22 = .ok (.iload_n 1, 1) := by decide +kernel
theorem zd_Lines_init_23 : decode zb_Lines_init 23 = .ok (.bipush 8, 2) := by decide +kernel
theorem zd_Lines_init_25 : decode zb_Lines_init 25 = .ok (.if_icmp .ge 16, 3) := by decide +kernel
theorem zd_Lines_init_28 : decode zb_Lines_init 28 = .ok (.aload_n 0, 1) := by decide +kernel
theorem zd_Lines_init_29 : decode zb_Lines_init 29 = .ok (.getfield 15, 3) := by decide +kernel
theorem zd_Lines_init_32 : decode zb_Lines_init 32 = .ok (.iload_n 1, 1) := by decide +kernel
theorem zd_Lines_init_33 : decode zb_Lines_init 33 = .ok (.iconst 1, 1) := by decide +kernel
theorem zd_Lines_init_34 : decode zb_Lines_init 34 = .ok (.iastore, 1) := by decide +kernel
theorem zd_Lines_init_35 : decode zb_Lines_init 35 = .ok (.iinc 1 1, 3) := by decide +kernel
theorem zd_Lines_init_38 : decode zb_Lines_init 38 = .ok (.goto (-16), 3) := by decide +kernel
theorem zd_Lines_init_41 : decode zb_Lines_init 41 = .ok (.return_, 1) := by decide +kernel
theorem zd_Lines_has_0 : decode zb_Lines_has 0 = .ok (.iload_n 1, 1) := by decide +kernel
theorem zd_Lines_has_1 : decode zb_Lines_has 1 = .ok (.ifCond .lt 13, 3) := by decide +kernel
theorem zd_Lines_has_4 : decode zb_Lines_has 4 = .ok (.iload_n 1, 1) := by decide +kernel
theorem zd_Lines_has_5 : decode zb_Lines_has 5 = .ok (.bipush 8, 2) := by decide +kernel
theorem zd_Lines_has_7 : decode zb_Lines_has 7 = .ok (.if_icmp .ge 7, 3) := by decide +kernel
theorem zd_Lines_has_10 : decode zb_Lines_has 10 = .ok (.iconst 1, 1) := by decide +kernel
theorem zd_Lines_has_11 : decode zb_Lines_has 11 = .ok (.goto 4, 3) := by decide +kernel
theorem zd_Lines_has_14 : decode zb_Lines_has 14 = .ok (.iconst 0, 1) := by decide +kernel
theorem zd_Lines_has_15 : decode zb_Lines_has 15 = .ok (.ireturn, 1) := by decide +kernel
theorem zd_Lines_turn_0 : decode zb_Lines_turn 0 = .ok (.aload_n 0, 1) := by decide +kernel
theorem zd_Lines_turn_1 : decode zb_Lines_turn 1 = .ok (.getfield 9, 3) := by decide +kernel
theorem zd_Lines_turn_4 : decode zb_Lines_turn 4 = .ok (.iload_n 1, 1) := by decide +kernel
theorem zd_Lines_turn_5 : decode zb_Lines_turn 5 = .ok (.baload, 1) := by decide +kernel
theorem zd_Lines_turn_6 : decode zb_Lines_turn 6 = .ok (.istore_n 3, 1) := by decide +kernel
theorem zd_Lines_turn_7 : decode zb_Lines_turn 7 = .ok (.aload_n 0, 1) := by decide +kernel
theorem zd_Lines_turn_8 : decode zb_Lines_turn 8 = .ok (.getfield 9, 3) := by decide +kernel
theorem zd_Lines_turn_11 : decode zb_Lines_turn 11 = .ok (.iload_n 1, 1) := by decide +kernel
theorem zd_Lines_turn_12 : decode zb_Lines_turn 12 = .ok (.iload_n 2, 1) := by decide +kernel
theorem zd_Lines_turn_13 : decode zb_Lines_turn 13 = .ok (.bastore, 1) := by decide +kernel
theorem zd_Lines_turn_14 : decode zb_Lines_turn 14 = .ok (.iload_n 3, 1) := by decide +kernel
theorem zd_Lines_turn_15 : decode zb_Lines_turn 15 = .ok (.ireturn, 1) := by decide +kernel
theorem zd_Lines_giveRank_0 : decode zb_Lines_giveRank 0 = .ok (.aload_n 0, 1) := by decide +kernel
theorem zd_Lines_giveRank_1 : decode zb_Lines_giveRank 1 = .ok (.getfield 15, 3) := by decide +kernel
theorem zd_Lines_giveRank_4 : decode zb_Lines_giveRank 4 = .ok (.iload_n 1, 1) := by decide +kernel
theorem zd_Lines_giveRank_5 : decode zb_Lines_giveRank 5 = .ok (.iaload, 1) := by decide +kernel
theorem zd_Lines_giveRank_6 : decode zb_Lines_giveRank 6 = .ok (.istore_n 3, 1) := by decide +kernel
theorem zd_Lines_giveRank_7 : decode zb_Lines_giveRank 7 = .ok (.aload_n 0, 1) := by decide +kernel
theorem zd_Lines_giveRank_8 : decode zb_Lines_giveRank 8 = .ok (.getfield 15, 3) := by decide +kernel
theorem zd_Lines_giveRank_11 : decode zb_Lines_giveRank 11 = .ok (.iload_n 1, 1) := by decide +kernel
theorem zd_Lines_giveRank_12 : decode zb_Lines_giveRank 12 = .ok (.iload_n 2, 1) := by decide +kernel
theorem zd_Lines_giveRank_13 : decode zb_Lines_giveRank 13 = .ok (.iastore, 1) := by decide +kernel
theorem zd_Lines_giveRank_14 : decode zb_Lines_giveRank 14 = .ok (.iload_n 3, 1) := by decide +kernel
theorem zd_Lines_giveRank_15 : decode zb_Lines_giveRank 15 = .ok (.ireturn, 1) := by decide +kernel
theorem zd_Lines_rankOf_0 : decode zb_Lines_rankOf 0 = .ok (.aload_n 0, 1) := by decide +kernel
theorem zd_Lines_rankOf_1 : decode zb_Lines_rankOf 1 = .ok (.getfield 15, 3) := by decide +kernel
theorem zd_Lines_rankOf_4 : decode zb_Lines_rankOf 4 = .ok (.iload_n 1, 1) := by decide +kernel
theorem zd_Lines_rankOf_5 : decode zb_Lines_rankOf 5 = .ok (.iaload, 1) := by decide +kernel
theorem zd_Lines_rankOf_6 : decode zb_Lines_rankOf 6 = .ok (.ireturn, 1) := by decide +kernel
theorem zd_Lines_mostUrgent_0 : decode zb_Lines_mostUrgent 0 = .ok (.iconst (-1), 1) := by decide +kernel
theorem zd_Lines_mostUrgent_1 : decode zb_Lines_mostUrgent 1 = .ok (.istore_n 2, 1) := by decide +kernel
theorem zd_Lines_mostUrgent_2 : decode zb_Lines_mostUrgent 2 = .ok (.iload_n 1, 1) := by decide +kernel
theorem zd_Lines_mostUrgent_3 : decode zb_Lines_mostUrgent 3 = .ok (.istore_n 3, 1) := by decide +kernel
theorem zd_Lines_mostUrgent_4 : decode zb_Lines_mostUrgent 4 = .ok (.iconst 0, 1) := by decide +kernel
theorem zd_Lines_mostUrgent_5 : decode zb_Lines_mostUrgent 5 = .ok (.istore 4, 2) := by decide +kernel
theorem zd_Lines_mostUrgent_7 : decode zb_Lines_mostUrgent 7 = .ok (.iload 4, 2) := by decide +kernel
theorem zd_Lines_mostUrgent_9 : decode zb_Lines_mostUrgent 9 = .ok (.bipush 8, 2) := by decide +kernel
theorem zd_Lines_mostUrgent_11 : decode zb_Lines_mostUrgent 11 = .ok (.if_icmp .ge 41, 3) := by decide +kernel
theorem zd_Lines_mostUrgent_14 : decode zb_Lines_mostUrgent 14 = .ok (.aload_n 0, 1) := by decide +kernel
theorem zd_Lines_mostUrgent_15 : decode zb_Lines_mostUrgent 15 = .ok (.getfield 9, 3) := by decide +kernel
theorem zd_Lines_mostUrgent_18 : decode zb_Lines_mostUrgent 18 = .ok (.iload 4, 2) := by decide +kernel
theorem zd_Lines_mostUrgent_20 : decode zb_Lines_mostUrgent 20 = .ok (.baload, 1) := by decide +kernel
theorem zd_Lines_mostUrgent_21 : decode zb_Lines_mostUrgent 21 = .ok (.ifCond .eq 25, 3) := by decide +kernel
theorem zd_Lines_mostUrgent_24 : decode zb_Lines_mostUrgent 24 = .ok (.aload_n 0, 1) := by decide +kernel
theorem zd_Lines_mostUrgent_25 : decode zb_Lines_mostUrgent 25 = .ok (.getfield 15, 3) := by decide +kernel
theorem zd_Lines_mostUrgent_28 : decode zb_Lines_mostUrgent 28 = .ok (.iload 4, 2) := by decide +kernel
theorem zd_Lines_mostUrgent_30 : decode zb_Lines_mostUrgent 30 = .ok (.iaload, 1) := by decide +kernel
theorem zd_Lines_mostUrgent_31 : decode zb_Lines_mostUrgent 31 = .ok (.iload_n 3, 1) := by decide +kernel
theorem zd_Lines_mostUrgent_32 : decode zb_Lines_mostUrgent 32 = .ok (.if_icmp .le 14, 3) := by decide +kernel
theorem zd_Lines_mostUrgent_35 : decode zb_Lines_mostUrgent 35 = .ok (.iload 4, 2) := by decide +kernel
theorem zd_Lines_mostUrgent_37 : decode zb_Lines_mostUrgent 37 = .ok (.istore_n 2, 1) := by decide +kernel
theorem zd_Lines_mostUrgent_38 : decode zb_Lines_mostUrgent 38 = .ok (.aload_n 0, 1) := by decide +kernel
theorem zd_Lines_mostUrgent_39 : decode zb_Lines_mostUrgent 39 = .ok (.getfield 15, 3) := by decide +kernel
theorem zd_Lines_mostUrgent_42 : decode zb_Lines_mostUrgent 42 = .ok (.iload 4, 2) := by decide +kernel
theorem zd_Lines_mostUrgent_44 : decode zb_Lines_mostUrgent 44 = .ok (.iaload, 1) := by decide +kernel
theorem zd_Lines_mostUrgent_45 : decode zb_Lines_mostUrgent 45 = .ok (.istore_n 3, 1) := by decide +kernel
theorem zd_Lines_mostUrgent_46 : decode zb_Lines_mostUrgent 46 = .ok (.iinc 4 1, 3) := by decide +kernel
theorem zd_Lines_mostUrgent_49 : decode zb_Lines_mostUrgent 49 = .ok (.goto (-42), 3) := by decide +kernel
theorem zd_Lines_mostUrgent_52 : decode zb_Lines_mostUrgent 52 = .ok (.iload_n 2, 1) := by decide +kernel
theorem zd_Lines_mostUrgent_53 : decode zb_Lines_mostUrgent 53 = .ok (.ireturn, 1) := by decide +kernel
theorem zd_Writes_init_0 : decode zb_Writes_init 0 = .ok (.aload_n 0, 1) := by decide +kernel
theorem zd_Writes_init_1 : decode zb_Writes_init 1 = .ok (.invokespecial 3, 3) := by decide +kernel
theorem zd_Writes_init_4 : decode zb_Writes_init 4 = .ok (.aload_n 0, 1) := by decide +kernel
theorem zd_Writes_init_5 : decode zb_Writes_init 5 = .ok (.sipush 200, 3) := by decide +kernel
theorem zd_Writes_init_8 : decode zb_Writes_init 8 = .ok (.newarray .int, 2) := by decide +kernel
theorem zd_Writes_init_10 : decode zb_Writes_init 10 = .ok (.putfield 9, 3) := by decide +kernel
theorem zd_Writes_init_13 : decode zb_Writes_init 13 = .ok (.aload_n 0, 1) := by decide +kernel
theorem zd_Writes_init_14 : decode zb_Writes_init 14 = .ok (.sipush 200, 3) := by decide +kernel
theorem zd_Writes_init_17 : decode zb_Writes_init 17 = .ok (.newarray .int, 2) := by decide +kernel
theorem zd_Writes_init_19 : decode zb_Writes_init 19 = .ok (.putfield 15, 3) := by decide +kernel
theorem zd_Writes_init_22 : decode zb_Writes_init 22 = .ok (.aload_n 0, 1) := by decide +kernel
theorem zd_Writes_init_23 : decode zb_Writes_init 23 = .ok (.sipush 200, 3) := by decide +kernel
theorem zd_Writes_init_26 : decode zb_Writes_init 26 = .ok (.newarray .long, 2) := by decide +kernel
theorem zd_Writes_init_28 : decode zb_Writes_init 28 = .ok (.putfield 18, 3) := by decide +kernel
theorem zd_Writes_init_31 : decode zb_Writes_init 31 = .ok (.aload_n 0, 1) := by decide +kernel
theorem zd_Writes_init_32 : decode zb_Writes_init 32 = .ok (.aload_n 1, 1) := by decide +kernel
theorem zd_Writes_init_33 : decode zb_Writes_init 33 = .ok (.putfield 22, 3) := by decide +kernel
theorem zd_Writes_init_36 : decode zb_Writes_init 36 = .ok (.aload_n 0, 1) := by decide +kernel
theorem zd_Writes_init_37 : decode zb_Writes_init 37 = .ok (.aload_n 2, 1) := by decide +kernel
theorem zd_Writes_init_38 : decode zb_Writes_init 38 = .ok (.putfield 26, 3) := by decide +kernel
theorem zd_Writes_init_41 : decode zb_Writes_init 41 = .ok (.return_, 1) := by decide +kernel
theorem zd_Writes_clear_0 : decode zb_Writes_clear 0 = .ok (.aload_n 0, 1) := by decide +kernel
theorem zd_Writes_clear_1 : decode zb_Writes_clear 1 = .ok (.iconst 0, 1) := by decide +kernel
theorem zd_Writes_clear_2 : decode zb_Writes_clear 2 = .ok (.putfield 30, 3) := by decide +kernel
theorem zd_Writes_clear_5 : decode zb_Writes_clear 5 = .ok (.return_, 1) := by decide +kernel
theorem zd_Writes_note_0 : decode zb_Writes_note 0 = .ok (.aload_n 0, 1) := by decide +kernel
theorem zd_Writes_note_1 : decode zb_Writes_note 1 = .ok (.getfield 30, 3) := by decide +kernel
theorem zd_Writes_note_4 : decode zb_Writes_note 4 = .ok (.sipush 200, 3) := by decide +kernel
theorem zd_Writes_note_7 : decode zb_Writes_note 7 = .ok (.if_icmp .lt 4, 3) := by decide +kernel
theorem zd_Writes_note_10 : decode zb_Writes_note 10 = .ok (.return_, 1) := by decide +kernel
theorem zd_Writes_note_11 : decode zb_Writes_note 11 = .ok (.aload_n 0, 1) := by decide +kernel
theorem zd_Writes_note_12 : decode zb_Writes_note 12 = .ok (.getfield 9, 3) := by decide +kernel
theorem zd_Writes_note_15 : decode zb_Writes_note 15 = .ok (.aload_n 0, 1) := by decide +kernel
theorem zd_Writes_note_16 : decode zb_Writes_note 16 = .ok (.getfield 30, 3) := by decide +kernel
theorem zd_Writes_note_19 : decode zb_Writes_note 19 = .ok (.iload_n 1, 1) := by decide +kernel
theorem zd_Writes_note_20 : decode zb_Writes_note 20 = .ok (.iastore, 1) := by decide +kernel
theorem zd_Writes_note_21 : decode zb_Writes_note 21 = .ok (.aload_n 0, 1) := by decide +kernel
theorem zd_Writes_note_22 : decode zb_Writes_note 22 = .ok (.getfield 15, 3) := by decide +kernel
theorem zd_Writes_note_25 : decode zb_Writes_note 25 = .ok (.aload_n 0, 1) := by decide +kernel
theorem zd_Writes_note_26 : decode zb_Writes_note 26 = .ok (.getfield 30, 3) := by decide +kernel
theorem zd_Writes_note_29 : decode zb_Writes_note 29 = .ok (.iload_n 2, 1) := by decide +kernel
theorem zd_Writes_note_30 : decode zb_Writes_note 30 = .ok (.iastore, 1) := by decide +kernel
theorem zd_Writes_note_31 : decode zb_Writes_note 31 = .ok (.aload_n 0, 1) := by decide +kernel
theorem zd_Writes_note_32 : decode zb_Writes_note 32 = .ok (.getfield 18, 3) := by decide +kernel
theorem zd_Writes_note_35 : decode zb_Writes_note 35 = .ok (.aload_n 0, 1) := by decide +kernel
theorem zd_Writes_note_36 : decode zb_Writes_note 36 = .ok (.getfield 30, 3) := by decide +kernel
theorem zd_Writes_note_39 : decode zb_Writes_note 39 = .ok (.lload_n 3, 1) := by decide +kernel
theorem zd_Writes_note_40 : decode zb_Writes_note 40 = .ok (.lastore, 1) := by decide +kernel
theorem zd_Writes_note_41 : decode zb_Writes_note 41 = .ok (.aload_n 0, 1) := by decide +kernel
theorem zd_Writes_note_42 : decode zb_Writes_note 42 = .ok (.dup, 1) := by decide +kernel
theorem zd_Writes_note_43 : decode zb_Writes_note 43 = .ok (.getfield 30, 3) := by decide +kernel
theorem zd_Writes_note_46 : decode zb_Writes_note 46 = .ok (.iconst 1, 1) := by decide +kernel
theorem zd_Writes_note_47 : decode zb_Writes_note 47 = .ok (.iadd, 1) := by decide +kernel
theorem zd_Writes_note_48 : decode zb_Writes_note 48 = .ok (.putfield 30, 3) := by decide +kernel
theorem zd_Writes_note_51 : decode zb_Writes_note 51 = .ok (.return_, 1) := by decide +kernel
theorem zd_Writes_noteReverse_0 : decode zb_Writes_noteReverse 0 = .ok (.iload_n 1, 1) := by decide +kernel
theorem zd_Writes_noteReverse_1 : decode zb_Writes_noteReverse 1 = .ok (.iconst 3, 1) := by decide +kernel
theorem zd_Writes_noteReverse_2 : decode zb_Writes_noteReverse 2 = .ok (.if_icmp .ne 21, 3) := by decide +kernel
theorem zd_Writes_noteReverse_5 : decode zb_Writes_noteReverse 5 = .ok (.aload_n 0, 1) := by decide +kernel
theorem zd_Writes_noteReverse_6 : decode zb_Writes_noteReverse 6 = .ok (.iconst 3, 1) := by decide +kernel
theorem zd_Writes_noteReverse_7 : decode zb_Writes_noteReverse 7 = .ok (.iload_n 2, 1) := by decide +kernel
theorem zd_Writes_noteReverse_8 : decode zb_Writes_noteReverse 8 = .ok (.aload_n 0, 1) := by decide +kernel
theorem zd_Writes_noteReverse_9 : decode zb_Writes_noteReverse 9 = .ok (.getfield 26, 3) := by decide +kernel
theorem zd_Writes_noteReverse_12 : decode zb_Writes_noteReverse 12 = .ok (.iload_n 2, 1) := by decide +kernel
theorem zd_Writes_noteReverse_13 : decode zb_Writes_noteReverse 13 = .ok (.invokevirtual 34, 3) := by decide +kernel
theorem zd_Writes_noteReverse_16 : decode zb_Writes_noteReverse 16 = .ok (.i2l, 1) := by decide +kernel
theorem zd_Writes_noteReverse_17 : decode zb_Writes_noteReverse 17 = .ok (.invokevirtual 40, 3) := by decide +kernel
theorem zd_Writes_noteReverse_20 : decode zb_Writes_noteReverse 20 = .ok (.goto 55, 3) := by decide +kernel
theorem zd_Writes_noteReverse_23 : decode zb_Writes_noteReverse 23 = .ok (.iload_n 1, 1) := by decide +kernel
theorem zd_Writes_noteReverse_24 : decode zb_Writes_noteReverse 24 = .ok (.iconst 4, 1) := by decide +kernel
theorem zd_Writes_noteReverse_25 : decode zb_Writes_noteReverse 25 = .ok (.if_icmp .ne 21, 3) := by decide +kernel
theorem zd_Writes_noteReverse_28 : decode zb_Writes_noteReverse 28 = .ok (.aload_n 0, 1) := by decide +kernel
theorem zd_Writes_noteReverse_29 : decode zb_Writes_noteReverse 29 = .ok (.iconst 4, 1) := by decide +kernel
theorem zd_Writes_noteReverse_30 : decode zb_Writes_noteReverse 30 = .ok (.iload_n 2, 1) := by decide +kernel
theorem zd_Writes_noteReverse_31 : decode zb_Writes_noteReverse 31 = .ok (.aload_n 0, 1) := by decide +kernel
theorem zd_Writes_noteReverse_32 : decode zb_Writes_noteReverse 32 = .ok (.getfield 26, 3) := by decide +kernel
theorem zd_Writes_noteReverse_35 : decode zb_Writes_noteReverse 35 = .ok (.iload_n 2, 1) := by decide +kernel
theorem zd_Writes_noteReverse_36 : decode zb_Writes_noteReverse 36 = .ok (.invokevirtual 44, 3) := by decide +kernel
theorem zd_Writes_noteReverse_39 : decode zb_Writes_noteReverse 39 = .ok (.i2l, 1) := by decide +kernel
theorem zd_Writes_noteReverse_40 : decode zb_Writes_noteReverse 40 = .ok (.invokevirtual 40, 3) := by decide +kernel
theorem zd_Writes_noteReverse_43 : decode zb_Writes_noteReverse 43 = .ok (.goto 32, 3) := by decide +kernel
theorem zd_Writes_noteReverse_46 : decode zb_Writes_noteReverse 46 = .ok (.aload_n 0, 1) := by decide +kernel
theorem zd_Writes_noteReverse_47 : decode zb_Writes_noteReverse 47 = .ok (.aload_n 0, 1) := by decide +kernel
theorem zd_Writes_noteReverse_48 : decode zb_Writes_noteReverse 48 = .ok (.getfield 22, 3) := by decide +kernel
theorem zd_Writes_noteReverse_51 : decode zb_Writes_noteReverse 51 = .ok (.iload_n 2, 1) := by decide +kernel
theorem zd_Writes_noteReverse_52 : decode zb_Writes_noteReverse 52 = .ok (.invokevirtual 47, 3) := by decide +kernel
theorem zd_Writes_noteReverse_55 : decode zb_Writes_noteReverse 55 = .ok (.ifCond .eq 7, 3) := by decide +kernel
theorem zd_Writes_noteReverse_58 : decode zb_Writes_noteReverse 58 = .ok (.iconst 1, 1) := by decide +kernel
theorem zd_Writes_noteReverse_59 : decode zb_Writes_noteReverse 59 = .ok (.goto 4, 3) := by decide +kernel
theorem zd_Writes_noteReverse_62 : decode zb_Writes_noteReverse 62 = .ok (.iconst 0, 1) := by decide +kernel
theorem zd_Writes_noteReverse_63 : decode zb_Writes_noteReverse 63 = .ok (.iload_n 2, 1) := by decide +kernel
theorem zd_Writes_noteReverse_64 : decode zb_Writes_noteReverse 64 = .ok (.aload_n 0, 1) := by decide +kernel
theorem zd_Writes_noteReverse_65 : decode zb_Writes_noteReverse 65 = .ok (.getfield 22, 3) := by decide +kernel
theorem zd_Writes_noteReverse_68 : decode zb_Writes_noteReverse 68 = .ok (.iload_n 2, 1) := by decide +kernel
theorem zd_Writes_noteReverse_69 : decode zb_Writes_noteReverse 69 = .ok (.invokevirtual 53, 3) := by decide +kernel
theorem zd_Writes_noteReverse_72 : decode zb_Writes_noteReverse 72 = .ok (.invokevirtual 40, 3) := by decide +kernel
theorem zd_Writes_noteReverse_75 : decode zb_Writes_noteReverse 75 = .ok (.return_, 1) := by decide +kernel
theorem zd_Writes_perform_0 : decode zb_Writes_perform 0 = .ok (.iload_n 1, 1) := by decide +kernel
theorem zd_Writes_perform_1 : decode zb_Writes_perform 1 = .ok (.tableswitch 71 2 4 #[51, 27, 39], 27) := by decide +kernel
theorem zd_Writes_perform_28 : decode zb_Writes_perform 28 = .ok (.aload_n 0, 1) := by decide +kernel
theorem zd_Writes_perform_29 : decode zb_Writes_perform 29 = .ok (.getfield 26, 3) := by decide +kernel
theorem zd_Writes_perform_32 : decode zb_Writes_perform 32 = .ok (.iload_n 2, 1) := by decide +kernel
theorem zd_Writes_perform_33 : decode zb_Writes_perform 33 = .ok (.lload_n 3, 1) := by decide +kernel
theorem zd_Writes_perform_34 : decode zb_Writes_perform 34 = .ok (.invokevirtual 57, 3) := by decide +kernel
theorem zd_Writes_perform_37 : decode zb_Writes_perform 37 = .ok (.goto 54, 3) := by decide +kernel
theorem zd_Writes_perform_40 : decode zb_Writes_perform 40 = .ok (.aload_n 0, 1) := by decide +kernel
theorem zd_Writes_perform_41 : decode zb_Writes_perform 41 = .ok (.getfield 26, 3) := by decide +kernel
theorem zd_Writes_perform_44 : decode zb_Writes_perform 44 = .ok (.iload_n 2, 1) := by decide +kernel
theorem zd_Writes_perform_45 : decode zb_Writes_perform 45 = .ok (.lload_n 3, 1) := by decide +kernel
theorem zd_Writes_perform_46 : decode zb_Writes_perform 46 = .ok (.invokevirtual 61, 3) := by decide +kernel
theorem zd_Writes_perform_49 : decode zb_Writes_perform 49 = .ok (.goto 42, 3) := by decide +kernel
theorem zd_Writes_perform_52 : decode zb_Writes_perform 52 = .ok (.aload_n 0, 1) := by decide +kernel
theorem zd_Writes_perform_53 : decode zb_Writes_perform 53 = .ok (.getfield 22, 3) := by decide +kernel
theorem zd_Writes_perform_56 : decode zb_Writes_perform 56 = .ok (.iload_n 2, 1) := by decide +kernel
theorem zd_Writes_perform_57 : decode zb_Writes_perform 57 = .ok (.aload_n 0, 1) := by decide +kernel
theorem zd_Writes_perform_58 : decode zb_Writes_perform 58 = .ok (.getfield 22, 3) := by decide +kernel
theorem zd_Writes_perform_61 : decode zb_Writes_perform 61 = .ok (.iload_n 2, 1) := by decide +kernel
theorem zd_Writes_perform_62 : decode zb_Writes_perform 62 = .ok (.invokevirtual 53, 3) := by decide +kernel
theorem zd_Writes_perform_65 : decode zb_Writes_perform 65 = .ok (.iconst 1, 1) := by decide +kernel
theorem zd_Writes_perform_66 : decode zb_Writes_perform 66 = .ok (.invokevirtual 64, 3) := by decide +kernel
theorem zd_Writes_perform_69 : decode zb_Writes_perform 69 = .ok (.goto 22, 3) := by decide +kernel
theorem zd_Writes_perform_72 : decode zb_Writes_perform 72 = .ok (.aload_n 0, 1) := by decide +kernel
theorem zd_Writes_perform_73 : decode zb_Writes_perform 73 = .ok (.getfield 22, 3) := by decide +kernel
theorem zd_Writes_perform_76 : decode zb_Writes_perform 76 = .ok (.iload_n 2, 1) := by decide +kernel
theorem zd_Writes_perform_77 : decode zb_Writes_perform 77 = .ok (.lload_n 3, 1) := by decide +kernel
theorem zd_Writes_perform_78 : decode zb_Writes_perform 78 = .ok (.iload_n 1, 1) := by decide +kernel
theorem zd_Writes_perform_79 : decode zb_Writes_perform 79 = .ok (.iconst 1, 1) := by decide +kernel
theorem zd_Writes_perform_80 : decode zb_Writes_perform 80 = .ok (.if_icmp .ne 7, 3) := by decide +kernel
theorem zd_Writes_perform_83 : decode zb_Writes_perform 83 = .ok (.iconst 1, 1) := by decide +kernel
theorem zd_Writes_perform_84 : decode zb_Writes_perform 84 = .ok (.goto 4, 3) := by decide +kernel
theorem zd_Writes_perform_87 : decode zb_Writes_perform 87 = .ok (.iconst 0, 1) := by decide +kernel
theorem zd_Writes_perform_88 : decode zb_Writes_perform 88 = .ok (.invokevirtual 64, 3) := by decide +kernel
theorem zd_Writes_perform_91 : decode zb_Writes_perform 91 = .ok (.return_, 1) := by decide +kernel
theorem zd_Writes_performInOrder_0 : decode zb_Writes_performInOrder 0 = .ok (.iconst 0, 1) := by decide +kernel
theorem zd_Writes_performInOrder_1 : decode zb_Writes_performInOrder 1 = .ok (.istore_n 1, 1) := by decide +kernel
theorem zd_Writes_performInOrder_2 : decode zb_Writes_performInOrder 2 = .ok (.iload_n 1, 1) := by decide +kernel
theorem zd_Writes_performInOrder_3 : decode zb_Writes_performInOrder 3 = .ok (.aload_n 0, 1) := by decide +kernel
theorem zd_Writes_performInOrder_4 : decode zb_Writes_performInOrder 4 = .ok (.getfield 30, 3) := by decide +kernel
theorem zd_Writes_performInOrder_7 : decode zb_Writes_performInOrder 7 = .ok (.if_icmp .ge 31, 3) := by decide +kernel
theorem zd_Writes_performInOrder_10 : decode zb_Writes_performInOrder 10 = .ok (.aload_n 0, 1) := by decide +kernel
theorem zd_Writes_performInOrder_11 : decode zb_Writes_performInOrder 11 = .ok (.aload_n 0, 1) := by decide +kernel
theorem zd_Writes_performInOrder_12 : decode zb_Writes_performInOrder 12 = .ok (.getfield 9, 3) := by decide +kernel
theorem zd_Writes_performInOrder_15 : decode zb_Writes_performInOrder 15 = .ok (.iload_n 1, 1) := by decide +kernel
theorem zd_Writes_performInOrder_16 : decode zb_Writes_performInOrder 16 = .ok (.iaload, 1) := by decide +kernel
theorem zd_Writes_performInOrder_17 : decode zb_Writes_performInOrder 17 = .ok (.aload_n 0, 1) := by decide +kernel
theorem zd_Writes_performInOrder_18 : decode zb_Writes_performInOrder 18 = .ok (.getfield 15, 3) := by decide +kernel
theorem zd_Writes_performInOrder_21 : decode zb_Writes_performInOrder 21 = .ok (.iload_n 1, 1) := by decide +kernel
theorem zd_Writes_performInOrder_22 : decode zb_Writes_performInOrder 22 = .ok (.iaload, 1) := by decide +kernel
theorem zd_Writes_performInOrder_23 : decode zb_Writes_performInOrder 23 = .ok (.aload_n 0, 1) := by decide +kernel
theorem zd_Writes_performInOrder_24 : decode zb_Writes_performInOrder 24 = .ok (.getfield 18, 3) := by decide +kernel
theorem zd_Writes_performInOrder_27 : decode zb_Writes_performInOrder 27 = .ok (.iload_n 1, 1) := by decide +kernel
theorem zd_Writes_performInOrder_28 : decode zb_Writes_performInOrder 28 = .ok (.laload, 1) := by decide +kernel
theorem zd_Writes_performInOrder_29 : decode zb_Writes_performInOrder 29 = .ok (.invokevirtual 68, 3) := by decide +kernel
theorem zd_Writes_performInOrder_32 : decode zb_Writes_performInOrder 32 = .ok (.iinc 1 1, 3) := by decide +kernel
theorem zd_Writes_performInOrder_35 : decode zb_Writes_performInOrder 35 = .ok (.goto (-33), 3) := by decide +kernel
theorem zd_Writes_performInOrder_38 : decode zb_Writes_performInOrder 38 = .ok (.return_, 1) := by decide +kernel
theorem zd_Writes_performBackwards_0 : decode zb_Writes_performBackwards 0 = .ok (.aload_n 0, 1) := by decide +kernel
theorem zd_Writes_performBackwards_1 : decode zb_Writes_performBackwards 1 = .ok (.getfield 30, 3) := by decide +kernel
theorem zd_Writes_performBackwards_4 : decode zb_Writes_performBackwards 4 = .ok (.iconst 1, 1) := by decide +kernel
theorem zd_Writes_performBackwards_5 : decode zb_Writes_performBackwards 5 = .ok (.isub, 1) := by decide +kernel
theorem zd_Writes_performBackwards_6 : decode zb_Writes_performBackwards 6 = .ok (.istore_n 1, 1) := by decide +kernel
theorem zd_Writes_performBackwards_7 : decode zb_Writes_performBackwards 7 = .ok (.iload_n 1, 1) := by decide +kernel
theorem zd_Writes_performBackwards_8 : decode zb_Writes_performBackwards 8 = .ok (.ifCond .lt 31, 3) := by decide +kernel
theorem zd_Writes_performBackwards_11 : decode zb_Writes_performBackwards 11 = .ok (.aload_n 0, 1) := by decide +kernel
theorem zd_Writes_performBackwards_12 : decode zb_Writes_performBackwards 12 = .ok (.aload_n 0, 1) := by decide +kernel
theorem zd_Writes_performBackwards_13 : decode zb_Writes_performBackwards 13 = .ok (.getfield 9, 3) := by decide +kernel
theorem zd_Writes_performBackwards_16 : decode zb_Writes_performBackwards 16 = .ok (.iload_n 1, 1) := by decide +kernel
theorem zd_Writes_performBackwards_17 : decode zb_Writes_performBackwards 17 = .ok (.iaload, 1) := by decide +kernel
theorem zd_Writes_performBackwards_18 : decode zb_Writes_performBackwards 18 = .ok (.aload_n 0, 1) := by decide +kernel
theorem zd_Writes_performBackwards_19 : decode zb_Writes_performBackwards 19 = .ok (.getfield 15, 3) := by decide +kernel
theorem zd_Writes_performBackwards_22 : decode zb_Writes_performBackwards 22 = .ok (.iload_n 1, 1) := by decide +kernel
theorem zd_Writes_performBackwards_23 : decode zb_Writes_performBackwards 23 = .ok (.iaload, 1) := by decide +kernel
theorem zd_Writes_performBackwards_24 : decode zb_Writes_performBackwards 24 = .ok (.aload_n 0, 1) := by decide +kernel
theorem zd_Writes_performBackwards_25 : decode zb_Writes_performBackwards 25 = .ok (.getfield 18, 3) := by decide +kernel
theorem zd_Writes_performBackwards_28 : decode zb_Writes_performBackwards 28 = .ok (.iload_n 1, 1) := by decide +kernel
theorem zd_Writes_performBackwards_29 : decode zb_Writes_performBackwards 29 = .ok (.laload, 1) := by decide +kernel
theorem zd_Writes_performBackwards_30 : decode zb_Writes_performBackwards 30 = .ok (.invokevirtual 68, 3) := by decide +kernel
theorem zd_Writes_performBackwards_33 : decode zb_Writes_performBackwards 33 = .ok (.iinc 1 (-1), 3) := by decide +kernel
theorem zd_Writes_performBackwards_36 : decode zb_Writes_performBackwards 36 = .ok (.goto (-29), 3) := by decide +kernel
theorem zd_Writes_performBackwards_39 : decode zb_Writes_performBackwards 39 = .ok (.return_, 1) := by decide +kernel
end
section
theorem zd_Work_init_0 : decode zb_Work_init 0 = .ok (.aload_n 0, 1) := by decide +kernel
theorem zd_Work_init_1 : decode zb_Work_init 1 = .ok (.invokespecial 3, 3) := by decide +kernel
theorem zd_Work_init_4 : decode zb_Work_init 4 = .ok (.aload_n 0, 1) := by decide +kernel
theorem zd_Work_init_5 : decode zb_Work_init 5 = .ok (.aload_n 1, 1) := by decide +kernel
theorem zd_Work_init_6 : decode zb_Work_init 6 = .ok (.putfield 9, 3) := by decide +kernel
theorem zd_Work_init_9 : decode zb_Work_init 9 = .ok (.aload_n 0, 1) := by decide +kernel
theorem zd_Work_init_10 : decode zb_Work_init 10 = .ok (.aload_n 2, 1) := by decide +kernel
theorem zd_Work_init_11 : decode zb_Work_init 11 = .ok (.putfield 15, 3) := by decide +kernel
theorem zd_Work_init_14 : decode zb_Work_init 14 = .ok (.aload_n 0, 1) := by decide +kernel
theorem zd_Work_init_15 : decode zb_Work_init 15 = .ok (.aload_n 3, 1) := by decide +kernel
theorem zd_Work_init_16 : decode zb_Work_init 16 = .ok (.putfield 19, 3) := by decide +kernel
theorem zd_Work_init_19 : decode zb_Work_init 19 = .ok (.aload_n 0, 1) := by decide +kernel
theorem zd_Work_init_20 : decode zb_Work_init 20 = .ok (.aload 4, 2) := by decide +kernel
theorem zd_Work_init_22 : decode zb_Work_init 22 = .ok (.putfield 23, 3) := by decide +kernel
theorem zd_Work_init_25 : decode zb_Work_init 25 = .ok (.aload_n 0, 1) := by decide +kernel
theorem zd_Work_init_26 : decode zb_Work_init 26 = .ok (.aload 5, 2) := by decide +kernel
theorem zd_Work_init_28 : decode zb_Work_init 28 = .ok (.putfield 27, 3) := by decide +kernel
theorem zd_Work_init_31 : decode zb_Work_init 31 = .ok (.aload_n 0, 1) := by decide +kernel
theorem zd_Work_init_32 : decode zb_Work_init 32 = .ok (.aload 6, 2) := by decide +kernel
theorem zd_Work_init_34 : decode zb_Work_init 34 = .ok (.putfield 31, 3) := by decide +kernel
theorem zd_Work_init_37 : decode zb_Work_init 37 = .ok (.aload_n 0, 1) := by decide +kernel
theorem zd_Work_init_38 : decode zb_Work_init 38 = .ok (.new 35, 3) := by decide +kernel
theorem zd_Work_init_41 : decode zb_Work_init 41 = .ok (.dup, 1) := by decide +kernel
theorem zd_Work_init_42 : decode zb_Work_init 42 = .ok (.aload_n 1, 1) := by decide +kernel
theorem zd_Work_init_43 : decode zb_Work_init 43 = .ok (.aload_n 2, 1) := by decide +kernel
theorem zd_Work_init_44 : decode zb_Work_init 44 = .ok (.invokespecial 37, 3) := by decide +kernel
theorem zd_Work_init_47 : decode zb_Work_init 47 = .ok (.putfield 40, 3) := by decide +kernel
theorem zd_Work_init_50 : decode zb_Work_init 50 = .ok (.return_, 1) := by decide +kernel
theorem zd_Work_carryOut_0 : decode zb_Work_carryOut 0 = .ok (.aload_n 0, 1) := by decide +kernel
theorem zd_Work_carryOut_1 : decode zb_Work_carryOut 1 = .ok (.iload_n 1, 1) := by decide +kernel
theorem zd_Work_carryOut_2 : decode zb_Work_carryOut 2 = .ok (.iload_n 2, 1) := by decide +kernel
theorem zd_Work_carryOut_3 : decode zb_Work_carryOut 3 = .ok (.invokevirtual 44, 3) := by decide +kernel
theorem zd_Work_carryOut_6 : decode zb_Work_carryOut 6 = .ok (.aload_n 0, 1) := by decide +kernel
theorem zd_Work_carryOut_7 : decode zb_Work_carryOut 7 = .ok (.getfield 27, 3) := by decide +kernel
theorem zd_Work_carryOut_10 : decode zb_Work_carryOut 10 = .ok (.getfield 48, 3) := by decide +kernel
theorem zd_Work_carryOut_13 : decode zb_Work_carryOut 13 = .ok (.istore_n 3, 1) := by decide +kernel
theorem zd_Work_carryOut_14 : decode zb_Work_carryOut 14 = .ok (.aload_n 0, 1) := by decide +kernel
theorem zd_Work_carryOut_15 : decode zb_Work_carryOut 15 = .ok (.getfield 27, 3) := by decide +kernel
theorem zd_Work_carryOut_18 : decode zb_Work_carryOut 18 = .ok (.getfield 54, 3) := by decide +kernel
theorem zd_Work_carryOut_21 : decode zb_Work_carryOut 21 = .ok (.istore 4, 2) := by decide +kernel
theorem zd_Work_carryOut_23 : decode zb_Work_carryOut 23 = .ok (.iconst 0, 1) := by decide +kernel
theorem zd_Work_carryOut_24 : decode zb_Work_carryOut 24 = .ok (.istore 5, 2) := by decide +kernel
theorem zd_Work_carryOut_26 : decode zb_Work_carryOut 26 = .ok (.aload_n 0, 1) := by decide +kernel
theorem zd_Work_carryOut_27 : decode zb_Work_carryOut 27 = .ok (.getfield 23, 3) := by decide +kernel
theorem zd_Work_carryOut_30 : decode zb_Work_carryOut 30 = .ok (.getfield 57, 3) := by decide +kernel
theorem zd_Work_carryOut_33 : decode zb_Work_carryOut 33 = .ok (.iload_n 1, 1) := by decide +kernel
theorem zd_Work_carryOut_34 : decode zb_Work_carryOut 34 = .ok (.iaload, 1) := by decide +kernel
theorem zd_Work_carryOut_35 : decode zb_Work_carryOut 35 = .ok (.istore 6, 2) := by decide +kernel
theorem zd_Work_carryOut_37 : decode zb_Work_carryOut 37 = .ok (.iload 6, 2) := by decide +kernel
theorem zd_Work_carryOut_39 : decode zb_Work_carryOut 39 = .ok (.aload_n 0, 1) := by decide +kernel
theorem zd_Work_carryOut_40 : decode zb_Work_carryOut 40 = .ok (.getfield 23, 3) := by decide +kernel
theorem zd_Work_carryOut_43 : decode zb_Work_carryOut 43 = .ok (.getfield 62, 3) := by decide +kernel
theorem zd_Work_carryOut_46 : decode zb_Work_carryOut 46 = .ok (.iload_n 1, 1) := by decide +kernel
theorem zd_Work_carryOut_47 : decode zb_Work_carryOut 47 = .ok (.iaload, 1) := by decide +kernel
theorem zd_Work_carryOut_48 : decode zb_Work_carryOut 48 = .ok (.if_icmp .ge 40, 3) := by decide +kernel
theorem zd_Work_carryOut_51 : decode zb_Work_carryOut 51 = .ok (.iload 5, 2) := by decide +kernel
theorem zd_Work_carryOut_53 : decode zb_Work_carryOut 53 = .ok (.ifCond .ne 35, 3) := by decide +kernel
theorem zd_Work_carryOut_56 : decode zb_Work_carryOut 56 = .ok (.aload_n 0, 1) := by decide +kernel
theorem zd_Work_carryOut_57 : decode zb_Work_carryOut 57 = .ok (.getfield 65, 3) := by decide +kernel
theorem zd_Work_carryOut_60 : decode zb_Work_carryOut 60 = .ok (.ifCond .ne 28, 3) := by decide +kernel
theorem zd_Work_carryOut_63 : decode zb_Work_carryOut 63 = .ok (.aload_n 0, 1) := by decide +kernel
theorem zd_Work_carryOut_64 : decode zb_Work_carryOut 64 = .ok (.getfield 31, 3) := by decide +kernel
theorem zd_Work_carryOut_67 : decode zb_Work_carryOut 67 = .ok (.bipush 8, 2) := by decide +kernel
theorem zd_Work_carryOut_69 : decode zb_Work_carryOut 69 = .ok (.dup2, 1) := by decide +kernel
theorem zd_Work_carryOut_70 : decode zb_Work_carryOut 70 = .ok (.iaload, 1) := by decide +kernel
theorem zd_Work_carryOut_71 : decode zb_Work_carryOut 71 = .ok (.iconst 1, 1) := by decide +kernel
theorem zd_Work_carryOut_72 : decode zb_Work_carryOut 72 = .ok (.iadd, 1) := by decide +kernel
theorem zd_Work_carryOut_73 : decode zb_Work_carryOut 73 = .ok (.iastore, 1) := by decide +kernel
theorem zd_Work_carryOut_74 : decode zb_Work_carryOut 74 = .ok (.aload_n 0, 1) := by decide +kernel
theorem zd_Work_carryOut_75 : decode zb_Work_carryOut 75 = .ok (.iload 6, 2) := by decide +kernel
theorem zd_Work_carryOut_77 : decode zb_Work_carryOut 77 = .ok (.invokevirtual 69, 3) := by decide +kernel
theorem zd_Work_carryOut_80 : decode zb_Work_carryOut 80 = .ok (.istore 5, 2) := by decide +kernel
theorem zd_Work_carryOut_82 : decode zb_Work_carryOut 82 = .ok (.iinc 6 1, 3) := by decide +kernel
theorem zd_Work_carryOut_85 : decode zb_Work_carryOut 85 = .ok (.goto (-48), 3) := by decide +kernel
theorem zd_Work_carryOut_88 : decode zb_Work_carryOut 88 = .ok (.iload 5, 2) := by decide +kernel
theorem zd_Work_carryOut_90 : decode zb_Work_carryOut 90 = .ok (.ifCond .ne 10, 3) := by decide +kernel
theorem zd_Work_carryOut_93 : decode zb_Work_carryOut 93 = .ok (.aload_n 0, 1) := by decide +kernel
theorem zd_Work_carryOut_94 : decode zb_Work_carryOut 94 = .ok (.invokevirtual 73, 3) := by decide +kernel
theorem zd_Work_carryOut_97 : decode zb_Work_carryOut 97 = .ok (.goto 24, 3) := by decide +kernel
theorem zd_Work_carryOut_100 : decode zb_Work_carryOut 100 = .ok (.aload_n 0, 1) := by decide +kernel
theorem zd_Work_carryOut_101 : decode zb_Work_carryOut 101 = .ok (.getfield 76, 3) := by decide +kernel
theorem zd_Work_carryOut_104 : decode zb_Work_carryOut 104 = .ok (.ifCond .eq 17, 3) := by decide +kernel
theorem zd_Work_carryOut_107 : decode zb_Work_carryOut 107 = .ok (.aload_n 0, 1) := by decide +kernel
theorem zd_Work_carryOut_108 : decode zb_Work_carryOut 108 = .ok (.invokevirtual 79, 3) := by decide +kernel
theorem zd_Work_carryOut_111 : decode zb_Work_carryOut 111 = .ok (.aload_n 0, 1) := by decide +kernel
theorem zd_Work_carryOut_112 : decode zb_Work_carryOut 112 = .ok (.getfield 27, 3) := by decide +kernel
theorem zd_Work_carryOut_115 : decode zb_Work_carryOut 115 = .ok (.iload_n 3, 1) := by decide +kernel
theorem zd_Work_carryOut_116 : decode zb_Work_carryOut 116 = .ok (.iload 4, 2) := by decide +kernel
theorem zd_Work_carryOut_118 : decode zb_Work_carryOut 118 = .ok (.invokevirtual 82, 3) := by decide +kernel
theorem zd_Work_carryOut_121 : decode zb_Work_carryOut 121 = .ok (.iload 5, 2) := by decide +kernel
theorem zd_Work_carryOut_123 : decode zb_Work_carryOut 123 = .ok (.ireturn, 1) := by decide +kernel
theorem zd_Work_prepare_0 : decode zb_Work_prepare 0 = .ok (.aload_n 0, 1) := by decide +kernel
theorem zd_Work_prepare_1 : decode zb_Work_prepare 1 = .ok (.iload_n 2, 1) := by decide +kernel
theorem zd_Work_prepare_2 : decode zb_Work_prepare 2 = .ok (.putfield 85, 3) := by decide +kernel
theorem zd_Work_prepare_5 : decode zb_Work_prepare 5 = .ok (.aload_n 0, 1) := by decide +kernel
theorem zd_Work_prepare_6 : decode zb_Work_prepare 6 = .ok (.aload_n 0, 1) := by decide +kernel
theorem zd_Work_prepare_7 : decode zb_Work_prepare 7 = .ok (.getfield 23, 3) := by decide +kernel
theorem zd_Work_prepare_10 : decode zb_Work_prepare 10 = .ok (.iload_n 1, 1) := by decide +kernel
theorem zd_Work_prepare_11 : decode zb_Work_prepare 11 = .ok (.iconst 1, 1) := by decide +kernel
theorem zd_Work_prepare_12 : decode zb_Work_prepare 12 = .ok (.invokevirtual 88, 3) := by decide +kernel
theorem zd_Work_prepare_15 : decode zb_Work_prepare 15 = .ok (.putfield 92, 3) := by decide +kernel
theorem zd_Work_prepare_18 : decode zb_Work_prepare 18 = .ok (.aload_n 0, 1) := by decide +kernel
theorem zd_Work_prepare_19 : decode zb_Work_prepare 19 = .ok (.aload_n 0, 1) := by decide +kernel
theorem zd_Work_prepare_20 : decode zb_Work_prepare 20 = .ok (.getfield 23, 3) := by decide +kernel
theorem zd_Work_prepare_23 : decode zb_Work_prepare 23 = .ok (.iload_n 1, 1) := by decide +kernel
theorem zd_Work_prepare_24 : decode zb_Work_prepare 24 = .ok (.iconst 2, 1) := by decide +kernel
theorem zd_Work_prepare_25 : decode zb_Work_prepare 25 = .ok (.invokevirtual 88, 3) := by decide +kernel
theorem zd_Work_prepare_28 : decode zb_Work_prepare 28 = .ok (.putfield 76, 3) := by decide +kernel
theorem zd_Work_prepare_31 : decode zb_Work_prepare 31 = .ok (.aload_n 0, 1) := by decide +kernel
theorem zd_Work_prepare_32 : decode zb_Work_prepare 32 = .ok (.iconst 0, 1) := by decide +kernel
theorem zd_Work_prepare_33 : decode zb_Work_prepare 33 = .ok (.putfield 95, 3) := by decide +kernel
theorem zd_Work_prepare_36 : decode zb_Work_prepare 36 = .ok (.aload_n 0, 1) := by decide +kernel
theorem zd_Work_prepare_37 : decode zb_Work_prepare 37 = .ok (.iconst 0, 1) := by decide +kernel
theorem zd_Work_prepare_38 : decode zb_Work_prepare 38 = .ok (.putfield 65, 3) := by decide +kernel
theorem zd_Work_prepare_41 : decode zb_Work_prepare 41 = .ok (.aload_n 0, 1) := by decide +kernel
theorem zd_Work_prepare_42 : decode zb_Work_prepare 42 = .ok (.iconst 0, 1) := by decide +kernel
theorem zd_Work_prepare_43 : decode zb_Work_prepare 43 = .ok (.putfield 98, 3) := by decide +kernel
theorem zd_Work_prepare_46 : decode zb_Work_prepare 46 = .ok (.aload_n 0, 1) := by decide +kernel
theorem zd_Work_prepare_47 : decode zb_Work_prepare 47 = .ok (.iconst (-1), 1) := by decide +kernel
theorem zd_Work_prepare_48 : decode zb_Work_prepare 48 = .ok (.putfield 101, 3) := by decide +kernel
theorem zd_Work_prepare_51 : decode zb_Work_prepare 51 = .ok (.aload_n 0, 1) := by decide +kernel
theorem zd_Work_prepare_52 : decode zb_Work_prepare 52 = .ok (.getfield 40, 3) := by decide +kernel
theorem zd_Work_prepare_55 : decode zb_Work_prepare 55 = .ok (.invokevirtual 104, 3) := by decide +kernel
theorem zd_Work_prepare_58 : decode zb_Work_prepare 58 = .ok (.return_, 1) := by decide +kernel
theorem zd_Work_writeWhatWaits_0 : decode zb_Work_writeWhatWaits 0 = .ok (.aload_n 0, 1) := by decide +kernel
theorem zd_Work_writeWhatWaits_1 : decode zb_Work_writeWhatWaits 1 = .ok (.getfield 92, 3) := by decide +kernel
theorem zd_Work_writeWhatWaits_4 : decode zb_Work_writeWhatWaits 4 = .ok (.ifCond .ne 4, 3) := by decide +kernel
theorem zd_Work_writeWhatWaits_7 : decode zb_Work_writeWhatWaits 7 = .ok (.return_, 1) := by decide +kernel
theorem zd_Work_writeWhatWaits_8 : decode zb_Work_writeWhatWaits 8 = .ok (.aload_n 0, 1) := by decide +kernel
theorem zd_Work_writeWhatWaits_9 : decode zb_Work_writeWhatWaits 9 = .ok (.getfield 101, 3) := by decide +kernel
theorem zd_Work_writeWhatWaits_12 : decode zb_Work_writeWhatWaits 12 = .ok (.iconst (-1), 1) := by decide +kernel
theorem zd_Work_writeWhatWaits_13 : decode zb_Work_writeWhatWaits 13 = .ok (.if_icmp .eq 17, 3) := by decide +kernel
theorem zd_Work_writeWhatWaits_16 : decode zb_Work_writeWhatWaits 16 = .ok (.aload_n 0, 1) := by decide +kernel
theorem zd_Work_writeWhatWaits_17 : decode zb_Work_writeWhatWaits 17 = .ok (.getfield 9, 3) := by decide +kernel
theorem zd_Work_writeWhatWaits_20 : decode zb_Work_writeWhatWaits 20 = .ok (.iconst 0, 1) := by decide +kernel
theorem zd_Work_writeWhatWaits_21 : decode zb_Work_writeWhatWaits 21 = .ok (.aload_n 0, 1) := by decide +kernel
theorem zd_Work_writeWhatWaits_22 : decode zb_Work_writeWhatWaits 22 = .ok (.getfield 101, 3) := by decide +kernel
theorem zd_Work_writeWhatWaits_25 : decode zb_Work_writeWhatWaits 25 = .ok (.i2l, 1) := by decide +kernel
theorem zd_Work_writeWhatWaits_26 : decode zb_Work_writeWhatWaits 26 = .ok (.iconst 0, 1) := by decide +kernel
theorem zd_Work_writeWhatWaits_27 : decode zb_Work_writeWhatWaits 27 = .ok (.invokevirtual 107, 3) := by decide +kernel
theorem zd_Work_writeWhatWaits_30 : decode zb_Work_writeWhatWaits 30 = .ok (.aload_n 0, 1) := by decide +kernel
theorem zd_Work_writeWhatWaits_31 : decode zb_Work_writeWhatWaits 31 = .ok (.getfield 40, 3) := by decide +kernel
theorem zd_Work_writeWhatWaits_34 : decode zb_Work_writeWhatWaits 34 = .ok (.invokevirtual 113, 3) := by decide +kernel
theorem zd_Work_writeWhatWaits_37 : decode zb_Work_writeWhatWaits 37 = .ok (.return_, 1) := by decide +kernel
theorem zd_Work_takeBack_0 : decode zb_Work_takeBack 0 = .ok (.aload_n 0, 1) := by decide +kernel
theorem zd_Work_takeBack_1 : decode zb_Work_takeBack 1 = .ok (.getfield 92, 3) := by decide +kernel
theorem zd_Work_takeBack_4 : decode zb_Work_takeBack 4 = .ok (.ifCond .ne 10, 3) := by decide +kernel
theorem zd_Work_takeBack_7 : decode zb_Work_takeBack 7 = .ok (.aload_n 0, 1) := by decide +kernel
theorem zd_Work_takeBack_8 : decode zb_Work_takeBack 8 = .ok (.getfield 40, 3) := by decide +kernel
theorem zd_Work_takeBack_11 : decode zb_Work_takeBack 11 = .ok (.invokevirtual 116, 3) := by decide +kernel
theorem zd_Work_takeBack_14 : decode zb_Work_takeBack 14 = .ok (.aload_n 0, 1) := by decide +kernel
theorem zd_Work_takeBack_15 : decode zb_Work_takeBack 15 = .ok (.iconst 0, 1) := by decide +kernel
theorem zd_Work_takeBack_16 : decode zb_Work_takeBack 16 = .ok (.putfield 98, 3) := by decide +kernel
theorem zd_Work_takeBack_19 : decode zb_Work_takeBack 19 = .ok (.return_, 1) := by decide +kernel
theorem zd_Work_doTransfer_0 : decode zb_Work_doTransfer 0 = .ok (.aload_n 0, 1) := by decide +kernel
theorem zd_Work_doTransfer_1 : decode zb_Work_doTransfer 1 = .ok (.getfield 23, 3) := by decide +kernel
theorem zd_Work_doTransfer_4 : decode zb_Work_doTransfer 4 = .ok (.getfield 119, 3) := by decide +kernel
theorem zd_Work_doTransfer_7 : decode zb_Work_doTransfer 7 = .ok (.iload_n 1, 1) := by decide +kernel
theorem zd_Work_doTransfer_8 : decode zb_Work_doTransfer 8 = .ok (.iaload, 1) := by decide +kernel
theorem zd_Work_doTransfer_9 : decode zb_Work_doTransfer 9 = .ok (.istore_n 2, 1) := by decide +kernel
theorem zd_Work_doTransfer_10 : decode zb_Work_doTransfer 10 = .ok (.aload_n 0, 1) := by decide +kernel
theorem zd_Work_doTransfer_11 : decode zb_Work_doTransfer 11 = .ok (.getfield 23, 3) := by decide +kernel
theorem zd_Work_doTransfer_14 : decode zb_Work_doTransfer 14 = .ok (.getfield 122, 3) := by decide +kernel
theorem zd_Work_doTransfer_17 : decode zb_Work_doTransfer 17 = .ok (.iload_n 1, 1) := by decide +kernel
theorem zd_Work_doTransfer_18 : decode zb_Work_doTransfer 18 = .ok (.iaload, 1) := by decide +kernel
theorem zd_Work_doTransfer_19 : decode zb_Work_doTransfer 19 = .ok (.istore_n 3, 1) := by decide +kernel
theorem zd_Work_doTransfer_20 : decode zb_Work_doTransfer 20 = .ok (.aload_n 0, 1) := by decide +kernel
theorem zd_Work_doTransfer_21 : decode zb_Work_doTransfer 21 = .ok (.getfield 19, 3) := by decide +kernel
theorem zd_Work_doTransfer_24 : decode zb_Work_doTransfer 24 = .ok (.aload_n 0, 1) := by decide +kernel
theorem zd_Work_doTransfer_25 : decode zb_Work_doTransfer 25 = .ok (.getfield 23, 3) := by decide +kernel
theorem zd_Work_doTransfer_28 : decode zb_Work_doTransfer 28 = .ok (.getfield 125, 3) := by decide +kernel
theorem zd_Work_doTransfer_31 : decode zb_Work_doTransfer 31 = .ok (.iload_n 1, 1) := by decide +kernel
theorem zd_Work_doTransfer_32 : decode zb_Work_doTransfer 32 = .ok (.iaload, 1) := by decide +kernel
theorem zd_Work_doTransfer_33 : decode zb_Work_doTransfer 33 = .ok (.aload_n 0, 1) := by decide +kernel
theorem zd_Work_doTransfer_34 : decode zb_Work_doTransfer 34 = .ok (.getfield 85, 3) := by decide +kernel
theorem zd_Work_doTransfer_37 : decode zb_Work_doTransfer 37 = .ok (.invokevirtual 128, 3) := by decide +kernel
theorem zd_Work_doTransfer_40 : decode zb_Work_doTransfer 40 = .ok (.lstore 4, 2) := by decide +kernel
theorem zd_Work_doTransfer_42 : decode zb_Work_doTransfer 42 = .ok (.aload_n 0, 1) := by decide +kernel
theorem zd_Work_doTransfer_43 : decode zb_Work_doTransfer 43 = .ok (.getfield 19, 3) := by decide +kernel
theorem zd_Work_doTransfer_46 : decode zb_Work_doTransfer 46 = .ok (.aload_n 0, 1) := by decide +kernel
theorem zd_Work_doTransfer_47 : decode zb_Work_doTransfer 47 = .ok (.getfield 23, 3) := by decide +kernel
theorem zd_Work_doTransfer_50 : decode zb_Work_doTransfer 50 = .ok (.getfield 134, 3) := by decide +kernel
theorem zd_Work_doTransfer_53 : decode zb_Work_doTransfer 53 = .ok (.iload_n 1, 1) := by decide +kernel
theorem zd_Work_doTransfer_54 : decode zb_Work_doTransfer 54 = .ok (.iaload, 1) := by decide +kernel
theorem zd_Work_doTransfer_55 : decode zb_Work_doTransfer 55 = .ok (.aload_n 0, 1) := by decide +kernel
theorem zd_Work_doTransfer_56 : decode zb_Work_doTransfer 56 = .ok (.getfield 85, 3) := by decide +kernel
theorem zd_Work_doTransfer_59 : decode zb_Work_doTransfer 59 = .ok (.invokevirtual 128, 3) := by decide +kernel
theorem zd_Work_doTransfer_62 : decode zb_Work_doTransfer 62 = .ok (.lstore 6, 2) := by decide +kernel
theorem zd_Work_doTransfer_64 : decode zb_Work_doTransfer 64 = .ok (.aload_n 0, 1) := by decide +kernel
theorem zd_Work_doTransfer_65 : decode zb_Work_doTransfer 65 = .ok (.getfield 19, 3) := by decide +kernel
theorem zd_Work_doTransfer_68 : decode zb_Work_doTransfer 68 = .ok (.aload_n 0, 1) := by decide +kernel
theorem zd_Work_doTransfer_69 : decode zb_Work_doTransfer 69 = .ok (.getfield 23, 3) := by decide +kernel
theorem zd_Work_doTransfer_72 : decode zb_Work_doTransfer 72 = .ok (.getfield 125, 3) := by decide +kernel
theorem zd_Work_doTransfer_75 : decode zb_Work_doTransfer 75 = .ok (.iload_n 1, 1) := by decide +kernel
theorem zd_Work_doTransfer_76 : decode zb_Work_doTransfer 76 = .ok (.iaload, 1) := by decide +kernel
theorem zd_Work_doTransfer_77 : decode zb_Work_doTransfer 77 = .ok (.invokevirtual 137, 3) := by decide +kernel
theorem zd_Work_doTransfer_80 : decode zb_Work_doTransfer 80 = .ok (.ifCond .ne 26, 3) := by decide +kernel
theorem zd_Work_doTransfer_83 : decode zb_Work_doTransfer 83 = .ok (.iload_n 2, 1) := by decide +kernel
theorem zd_Work_doTransfer_84 : decode zb_Work_doTransfer 84 = .ok (.ifCond .eq 26, 3) := by decide +kernel
theorem zd_Work_doTransfer_87 : decode zb_Work_doTransfer 87 = .ok (.aload_n 0, 1) := by decide +kernel
theorem zd_Work_doTransfer_88 : decode zb_Work_doTransfer 88 = .ok (.getfield 19, 3) := by decide +kernel
theorem zd_Work_doTransfer_91 : decode zb_Work_doTransfer 91 = .ok (.aload_n 0, 1) := by decide +kernel
theorem zd_Work_doTransfer_92 : decode zb_Work_doTransfer 92 = .ok (.getfield 23, 3) := by decide +kernel
theorem zd_Work_doTransfer_95 : decode zb_Work_doTransfer 95 = .ok (.getfield 134, 3) := by decide +kernel
theorem zd_Work_doTransfer_98 : decode zb_Work_doTransfer 98 = .ok (.iload_n 1, 1) := by decide +kernel
theorem zd_Work_doTransfer_99 : decode zb_Work_doTransfer 99 = .ok (.iaload, 1) := by decide +kernel
theorem zd_Work_doTransfer_100 : decode zb_Work_doTransfer 100 = .ok (.invokevirtual 137, 3) := by decide +kernel
theorem zd_Work_doTransfer_103 : decode zb_Work_doTransfer 103 = .ok (.ifCond .eq 7, 3) := by decide +kernel
theorem zd_Work_doTransfer_106 : decode zb_Work_doTransfer 106 = .ok (.iconst 1, 1) := by decide +kernel
theorem zd_Work_doTransfer_107 : decode zb_Work_doTransfer 107 = .ok (.goto 4, 3) := by decide +kernel
theorem zd_Work_doTransfer_110 : decode zb_Work_doTransfer 110 = .ok (.iconst 0, 1) := by decide +kernel
theorem zd_Work_doTransfer_111 : decode zb_Work_doTransfer 111 = .ok (.istore 8, 2) := by decide +kernel
theorem zd_Work_doTransfer_113 : decode zb_Work_doTransfer 113 = .ok (.iload 8, 2) := by decide +kernel
theorem zd_Work_doTransfer_115 : decode zb_Work_doTransfer 115 = .ok (.ifCond .eq 7, 3) := by decide +kernel
theorem zd_Work_doTransfer_118 : decode zb_Work_doTransfer 118 = .ok (.iconst 1, 1) := by decide +kernel
theorem zd_Work_doTransfer_119 : decode zb_Work_doTransfer 119 = .ok (.goto 4, 3) := by decide +kernel
theorem zd_Work_doTransfer_122 : decode zb_Work_doTransfer 122 = .ok (.iconst 0, 1) := by decide +kernel
theorem zd_Work_doTransfer_123 : decode zb_Work_doTransfer 123 = .ok (.istore 9, 2) := by decide +kernel
theorem zd_Work_doTransfer_125 : decode zb_Work_doTransfer 125 = .ok (.iload_n 2, 1) := by decide +kernel
theorem zd_Work_doTransfer_126 : decode zb_Work_doTransfer 126 = .ok (.tableswitch 224 4 22 #[90, 90, 224, 224, 224, 224, 224, 224, 224, 103, 103, 127, 127, 147, 165, 187, 196, 212, 219], 90) := by decide +kernel
theorem zd_Work_doTransfer_216 : decode zb_Work_doTransfer 216 = .ok (.aload_n 0, 1) := by decide +kernel
theorem zd_Work_doTransfer_217 : decode zb_Work_doTransfer 217 = .ok (.iload_n 2, 1) := by decide +kernel
theorem zd_Work_doTransfer_218 : decode zb_Work_doTransfer 218 = .ok (.lload 4, 2) := by decide +kernel
theorem zd_Work_doTransfer_220 : decode zb_Work_doTransfer 220 = .ok (.lload 6, 2) := by decide +kernel
theorem zd_Work_doTransfer_222 : decode zb_Work_doTransfer 222 = .ok (.iload_n 3, 1) := by decide +kernel
theorem zd_Work_doTransfer_223 : decode zb_Work_doTransfer 223 = .ok (.iload 9, 2) := by decide +kernel
theorem zd_Work_doTransfer_225 : decode zb_Work_doTransfer 225 = .ok (.invokevirtual 141, 3) := by decide +kernel
theorem zd_Work_doTransfer_228 : decode zb_Work_doTransfer 228 = .ok (.ireturn, 1) := by decide +kernel
theorem zd_Work_doTransfer_229 : decode zb_Work_doTransfer 229 = .ok (.aload_n 0, 1) := by decide +kernel
theorem zd_Work_doTransfer_230 : decode zb_Work_doTransfer 230 = .ok (.iload_n 2, 1) := by decide +kernel
theorem zd_Work_doTransfer_231 : decode zb_Work_doTransfer 231 = .ok (.bipush 14, 2) := by decide +kernel
theorem zd_Work_doTransfer_233 : decode zb_Work_doTransfer 233 = .ok (.if_icmp .ne 7, 3) := by decide +kernel
theorem zd_Work_doTransfer_236 : decode zb_Work_doTransfer 236 = .ok (.iconst 1, 1) := by decide +kernel
theorem zd_Work_doTransfer_237 : decode zb_Work_doTransfer 237 = .ok (.goto 4, 3) := by decide +kernel
theorem zd_Work_doTransfer_240 : decode zb_Work_doTransfer 240 = .ok (.iconst 0, 1) := by decide +kernel
theorem zd_Work_doTransfer_241 : decode zb_Work_doTransfer 241 = .ok (.lload 4, 2) := by decide +kernel
theorem zd_Work_doTransfer_243 : decode zb_Work_doTransfer 243 = .ok (.lload 6, 2) := by decide +kernel
theorem zd_Work_doTransfer_245 : decode zb_Work_doTransfer 245 = .ok (.ladd, 1) := by decide +kernel
theorem zd_Work_doTransfer_246 : decode zb_Work_doTransfer 246 = .ok (.iload_n 3, 1) := by decide +kernel
theorem zd_Work_doTransfer_247 : decode zb_Work_doTransfer 247 = .ok (.iload 9, 2) := by decide +kernel
theorem zd_Work_doTransfer_249 : decode zb_Work_doTransfer 249 = .ok (.invokevirtual 145, 3) := by decide +kernel
theorem zd_Work_doTransfer_252 : decode zb_Work_doTransfer 252 = .ok (.ireturn, 1) := by decide +kernel
theorem zd_Work_doTransfer_253 : decode zb_Work_doTransfer 253 = .ok (.aload_n 0, 1) := by decide +kernel
theorem zd_Work_doTransfer_254 : decode zb_Work_doTransfer 254 = .ok (.iload_n 2, 1) := by decide +kernel
theorem zd_Work_doTransfer_255 : decode zb_Work_doTransfer 255 = .ok (.bipush 16, 2) := by decide +kernel
theorem zd_Work_doTransfer_257 : decode zb_Work_doTransfer 257 = .ok (.if_icmp .ne 7, 3) := by decide +kernel
theorem zd_Work_doTransfer_260 : decode zb_Work_doTransfer 260 = .ok (.iconst 1, 1) := by decide +kernel
theorem zd_Work_doTransfer_261 : decode zb_Work_doTransfer 261 = .ok (.goto 4, 3) := by decide +kernel
theorem zd_Work_doTransfer_264 : decode zb_Work_doTransfer 264 = .ok (.iconst 0, 1) := by decide +kernel
theorem zd_Work_doTransfer_265 : decode zb_Work_doTransfer 265 = .ok (.lload 4, 2) := by decide +kernel
theorem zd_Work_doTransfer_267 : decode zb_Work_doTransfer 267 = .ok (.lload 6, 2) := by decide +kernel
theorem zd_Work_doTransfer_269 : decode zb_Work_doTransfer 269 = .ok (.invokevirtual 149, 3) := by decide +kernel
theorem zd_Work_doTransfer_272 : decode zb_Work_doTransfer 272 = .ok (.ireturn, 1) := by decide +kernel
theorem zd_Work_doTransfer_273 : decode zb_Work_doTransfer 273 = .ok (.aload_n 0, 1) := by decide +kernel
theorem zd_Work_doTransfer_274 : decode zb_Work_doTransfer 274 = .ok (.lload 4, 2) := by decide +kernel
theorem zd_Work_doTransfer_276 : decode zb_Work_doTransfer 276 = .ok (.lconst 0, 1) := by decide +kernel
theorem zd_Work_doTransfer_277 : decode zb_Work_doTransfer 277 = .ok (.lcmp, 1) := by decide +kernel
theorem zd_Work_doTransfer_278 : decode zb_Work_doTransfer 278 = .ok (.ifCond .ne 7, 3) := by decide +kernel
theorem zd_Work_doTransfer_281 : decode zb_Work_doTransfer 281 = .ok (.iconst 1, 1) := by decide +kernel
theorem zd_Work_doTransfer_282 : decode zb_Work_doTransfer 282 = .ok (.goto 4, 3) := by decide +kernel
theorem zd_Work_doTransfer_285 : decode zb_Work_doTransfer 285 = .ok (.iconst 0, 1) := by decide +kernel
theorem zd_Work_doTransfer_286 : decode zb_Work_doTransfer 286 = .ok (.putfield 65, 3) := by decide +kernel
theorem zd_Work_doTransfer_289 : decode zb_Work_doTransfer 289 = .ok (.iconst 0, 1) := by decide +kernel
theorem zd_Work_doTransfer_290 : decode zb_Work_doTransfer 290 = .ok (.ireturn, 1) := by decide +kernel
theorem zd_Work_doTransfer_291 : decode zb_Work_doTransfer 291 = .ok (.lload 6, 2) := by decide +kernel
theorem zd_Work_doTransfer_293 : decode zb_Work_doTransfer 293 = .ok (.lconst 0, 1) := by decide +kernel
theorem zd_Work_doTransfer_294 : decode zb_Work_doTransfer 294 = .ok (.lcmp, 1) := by decide +kernel
theorem zd_Work_doTransfer_295 : decode zb_Work_doTransfer 295 = .ok (.ifCond .ne 7, 3) := by decide +kernel
theorem zd_Work_doTransfer_298 : decode zb_Work_doTransfer 298 = .ok (.iconst 0, 1) := by decide +kernel
theorem zd_Work_doTransfer_299 : decode zb_Work_doTransfer 299 = .ok (.goto 13, 3) := by decide +kernel
theorem zd_Work_doTransfer_302 : decode zb_Work_doTransfer 302 = .ok (.bipush 8, 2) := by decide +kernel
theorem zd_Work_doTransfer_304 : decode zb_Work_doTransfer 304 = .ok (.lload 4, 2) := by decide +kernel
theorem zd_Work_doTransfer_306 : decode zb_Work_doTransfer 306 = .ok (.ldc2_w 153, 3) := by decide +kernel
theorem zd_Work_doTransfer_309 : decode zb_Work_doTransfer 309 = .ok (.land, 1) := by decide +kernel
theorem zd_Work_doTransfer_310 : decode zb_Work_doTransfer 310 = .ok (.l2i, 1) := by decide +kernel
theorem zd_Work_doTransfer_311 : decode zb_Work_doTransfer 311 = .ok (.iadd, 1) := by decide +kernel
theorem zd_Work_doTransfer_312 : decode zb_Work_doTransfer 312 = .ok (.ireturn, 1) := by decide +kernel
theorem zd_Work_doTransfer_313 : decode zb_Work_doTransfer 313 = .ok (.aload_n 0, 1) := by decide +kernel
theorem zd_Work_doTransfer_314 : decode zb_Work_doTransfer 314 = .ok (.iconst 2, 1) := by decide +kernel
theorem zd_Work_doTransfer_315 : decode zb_Work_doTransfer 315 = .ok (.iload_n 3, 1) := by decide +kernel
theorem zd_Work_doTransfer_316 : decode zb_Work_doTransfer 316 = .ok (.lconst 0, 1) := by decide +kernel
theorem zd_Work_doTransfer_317 : decode zb_Work_doTransfer 317 = .ok (.invokevirtual 155, 3) := by decide +kernel
theorem zd_Work_doTransfer_320 : decode zb_Work_doTransfer 320 = .ok (.iconst 0, 1) := by decide +kernel
theorem zd_Work_doTransfer_321 : decode zb_Work_doTransfer 321 = .ok (.ireturn, 1) := by decide +kernel
theorem zd_Work_doTransfer_322 : decode zb_Work_doTransfer 322 = .ok (.aload_n 0, 1) := by decide +kernel
theorem zd_Work_doTransfer_323 : decode zb_Work_doTransfer 323 = .ok (.getfield 27, 3) := by decide +kernel
theorem zd_Work_doTransfer_326 : decode zb_Work_doTransfer 326 = .ok (.getfield 54, 3) := by decide +kernel
theorem zd_Work_doTransfer_329 : decode zb_Work_doTransfer 329 = .ok (.ifCond .ne 7, 3) := by decide +kernel
theorem zd_Work_doTransfer_332 : decode zb_Work_doTransfer 332 = .ok (.iconst 5, 1) := by decide +kernel
theorem zd_Work_doTransfer_333 : decode zb_Work_doTransfer 333 = .ok (.goto 4, 3) := by decide +kernel
theorem zd_Work_doTransfer_336 : decode zb_Work_doTransfer 336 = .ok (.iconst 0, 1) := by decide +kernel
theorem zd_Work_doTransfer_337 : decode zb_Work_doTransfer 337 = .ok (.ireturn, 1) := by decide +kernel
theorem zd_Work_doTransfer_338 : decode zb_Work_doTransfer 338 = .ok (.aload_n 0, 1) := by decide +kernel
theorem zd_Work_doTransfer_339 : decode zb_Work_doTransfer 339 = .ok (.iconst 1, 1) := by decide +kernel
theorem zd_Work_doTransfer_340 : decode zb_Work_doTransfer 340 = .ok (.putfield 98, 3) := by decide +kernel
theorem zd_Work_doTransfer_343 : decode zb_Work_doTransfer 343 = .ok (.iconst 0, 1) := by decide +kernel
theorem zd_Work_doTransfer_344 : decode zb_Work_doTransfer 344 = .ok (.ireturn, 1) := by decide +kernel
theorem zd_Work_doTransfer_345 : decode zb_Work_doTransfer 345 = .ok (.aload_n 0, 1) := by decide +kernel
theorem zd_Work_doTransfer_346 : decode zb_Work_doTransfer 346 = .ok (.invokevirtual 159, 3) := by decide +kernel
theorem zd_Work_doTransfer_349 : decode zb_Work_doTransfer 349 = .ok (.ireturn, 1) := by decide +kernel
theorem zd_Work_doTransfer_350 : decode zb_Work_doTransfer 350 = .ok (.aload_n 0, 1) := by decide +kernel
theorem zd_Work_doTransfer_351 : decode zb_Work_doTransfer 351 = .ok (.iload 9, 2) := by decide +kernel
theorem zd_Work_doTransfer_353 : decode zb_Work_doTransfer 353 = .ok (.iload_n 3, 1) := by decide +kernel
theorem zd_Work_doTransfer_354 : decode zb_Work_doTransfer 354 = .ok (.iload_n 2, 1) := by decide +kernel
theorem zd_Work_doTransfer_355 : decode zb_Work_doTransfer 355 = .ok (.lload 4, 2) := by decide +kernel
theorem zd_Work_doTransfer_357 : decode zb_Work_doTransfer 357 = .ok (.lload 6, 2) := by decide +kernel
theorem zd_Work_doTransfer_359 : decode zb_Work_doTransfer 359 = .ok (.invokestatic 163, 3) := by decide +kernel
theorem zd_Work_doTransfer_362 : decode zb_Work_doTransfer 362 = .ok (.invokevirtual 155, 3) := by decide +kernel
theorem zd_Work_doTransfer_365 : decode zb_Work_doTransfer 365 = .ok (.iconst 0, 1) := by decide +kernel
theorem zd_Work_doTransfer_366 : decode zb_Work_doTransfer 366 = .ok (.ireturn, 1) := by decide +kernel
theorem zd_Work_divide_0 : decode zb_Work_divide 0 = .ok (.lload 4, 2) := by decide +kernel
theorem zd_Work_divide_2 : decode zb_Work_divide 2 = .ok (.lconst 0, 1) := by decide +kernel
theorem zd_Work_divide_3 : decode zb_Work_divide 3 = .ok (.lcmp, 1) := by decide +kernel
theorem zd_Work_divide_4 : decode zb_Work_divide 4 = .ok (.ifCond .ne 5, 3) := by decide +kernel
theorem zd_Work_divide_7 : decode zb_Work_divide 7 = .ok (.iconst 4, 1) := by decide +kernel
theorem zd_Work_divide_8 : decode zb_Work_divide 8 = .ok (.ireturn, 1) := by decide +kernel
theorem zd_Work_divide_9 : decode zb_Work_divide 9 = .ok (.lload_n 2, 1) := by decide +kernel
theorem zd_Work_divide_10 : decode zb_Work_divide 10 = .ok (.lload 4, 2) := by decide +kernel
theorem zd_Work_divide_12 : decode zb_Work_divide 12 = .ok (.invokestatic 167, 3) := by decide +kernel
theorem zd_Work_divide_15 : decode zb_Work_divide 15 = .ok (.lstore 8, 2) := by decide +kernel
theorem zd_Work_divide_17 : decode zb_Work_divide 17 = .ok (.aload_n 0, 1) := by decide +kernel
theorem zd_Work_divide_18 : decode zb_Work_divide 18 = .ok (.iload 7, 2) := by decide +kernel
theorem zd_Work_divide_20 : decode zb_Work_divide 20 = .ok (.iload 6, 2) := by decide +kernel
theorem zd_Work_divide_22 : decode zb_Work_divide 22 = .ok (.iload_n 1, 1) := by decide +kernel
theorem zd_Work_divide_23 : decode zb_Work_divide 23 = .ok (.iconst 4, 1) := by decide +kernel
theorem zd_Work_divide_24 : decode zb_Work_divide 24 = .ok (.if_icmp .ne 8, 3) := by decide +kernel
theorem zd_Work_divide_27 : decode zb_Work_divide 27 = .ok (.lload 8, 2) := by decide +kernel
theorem zd_Work_divide_29 : decode zb_Work_divide 29 = .ok (.goto 10, 3) := by decide +kernel
theorem zd_Work_divide_32 : decode zb_Work_divide 32 = .ok (.lload_n 2, 1) := by decide +kernel
theorem zd_Work_divide_33 : decode zb_Work_divide 33 = .ok (.lload 8, 2) := by decide +kernel
theorem zd_Work_divide_35 : decode zb_Work_divide 35 = .ok (.lload 4, 2) := by decide +kernel
theorem zd_Work_divide_37 : decode zb_Work_divide 37 = .ok (.lmul, 1) := by decide +kernel
theorem zd_Work_divide_38 : decode zb_Work_divide 38 = .ok (.lsub, 1) := by decide +kernel
theorem zd_Work_divide_39 : decode zb_Work_divide 39 = .ok (.invokevirtual 155, 3) := by decide +kernel
theorem zd_Work_divide_42 : decode zb_Work_divide 42 = .ok (.iconst 0, 1) := by decide +kernel
theorem zd_Work_divide_43 : decode zb_Work_divide 43 = .ok (.ireturn, 1) := by decide +kernel
theorem zd_Work_load_0 : decode zb_Work_load 0 = .ok (.iload_n 1, 1) := by decide +kernel
theorem zd_Work_load_1 : decode zb_Work_load 1 = .ok (.ifCond .eq 17, 3) := by decide +kernel
theorem zd_Work_load_4 : decode zb_Work_load 4 = .ok (.aload_n 0, 1) := by decide +kernel
theorem zd_Work_load_5 : decode zb_Work_load 5 = .ok (.getfield 15, 3) := by decide +kernel
theorem zd_Work_load_8 : decode zb_Work_load 8 = .ok (.lload_n 2, 1) := by decide +kernel
theorem zd_Work_load_9 : decode zb_Work_load 9 = .ok (.invokevirtual 171, 3) := by decide +kernel
theorem zd_Work_load_12 : decode zb_Work_load 12 = .ok (.ifCond .ne 19, 3) := by decide +kernel
theorem zd_Work_load_15 : decode zb_Work_load 15 = .ok (.goto 14, 3) := by decide +kernel
theorem zd_Work_load_18 : decode zb_Work_load 18 = .ok (.aload_n 0, 1) := by decide +kernel
theorem zd_Work_load_19 : decode zb_Work_load 19 = .ok (.getfield 15, 3) := by decide +kernel
theorem zd_Work_load_22 : decode zb_Work_load 22 = .ok (.lload_n 2, 1) := by decide +kernel
theorem zd_Work_load_23 : decode zb_Work_load 23 = .ok (.invokevirtual 177, 3) := by decide +kernel
theorem zd_Work_load_26 : decode zb_Work_load 26 = .ok (.ifCond .ne 5, 3) := by decide +kernel
theorem zd_Work_load_29 : decode zb_Work_load 29 = .ok (.iconst 3, 1) := by decide +kernel
theorem zd_Work_load_30 : decode zb_Work_load 30 = .ok (.ireturn, 1) := by decide +kernel
theorem zd_Work_load_31 : decode zb_Work_load 31 = .ok (.lload_n 2, 1) := by decide +kernel
theorem zd_Work_load_32 : decode zb_Work_load 32 = .ok (.l2i, 1) := by decide +kernel
theorem zd_Work_load_33 : decode zb_Work_load 33 = .ok (.istore 6, 2) := by decide +kernel
theorem zd_Work_load_35 : decode zb_Work_load 35 = .ok (.aload_n 0, 1) := by decide +kernel
theorem zd_Work_load_36 : decode zb_Work_load 36 = .ok (.getfield 31, 3) := by decide +kernel
theorem zd_Work_load_39 : decode zb_Work_load 39 = .ok (.iconst 4, 1) := by decide +kernel
theorem zd_Work_load_40 : decode zb_Work_load 40 = .ok (.dup2, 1) := by decide +kernel
theorem zd_Work_load_41 : decode zb_Work_load 41 = .ok (.iaload, 1) := by decide +kernel
theorem zd_Work_load_42 : decode zb_Work_load 42 = .ok (.iload_n 1, 1) := by decide +kernel
theorem zd_Work_load_43 : decode zb_Work_load 43 = .ok (.ifCond .eq 7, 3) := by decide +kernel
theorem zd_Work_load_46 : decode zb_Work_load 46 = .ok (.iconst 2, 1) := by decide +kernel
theorem zd_Work_load_47 : decode zb_Work_load 47 = .ok (.goto 4, 3) := by decide +kernel
theorem zd_Work_load_50 : decode zb_Work_load 50 = .ok (.iconst 1, 1) := by decide +kernel
theorem zd_Work_load_51 : decode zb_Work_load 51 = .ok (.iadd, 1) := by decide +kernel
theorem zd_Work_load_52 : decode zb_Work_load 52 = .ok (.iastore, 1) := by decide +kernel
theorem zd_Work_load_53 : decode zb_Work_load 53 = .ok (.aload_n 0, 1) := by decide +kernel
theorem zd_Work_load_54 : decode zb_Work_load 54 = .ok (.iload 5, 2) := by decide +kernel
theorem zd_Work_load_56 : decode zb_Work_load 56 = .ok (.iload 4, 2) := by decide +kernel
theorem zd_Work_load_58 : decode zb_Work_load 58 = .ok (.iload_n 1, 1) := by decide +kernel
theorem zd_Work_load_59 : decode zb_Work_load 59 = .ok (.ifCond .eq 16, 3) := by decide +kernel
theorem zd_Work_load_62 : decode zb_Work_load 62 = .ok (.aload_n 0, 1) := by decide +kernel
theorem zd_Work_load_63 : decode zb_Work_load 63 = .ok (.getfield 15, 3) := by decide +kernel
theorem zd_Work_load_66 : decode zb_Work_load 66 = .ok (.iload 6, 2) := by decide +kernel
theorem zd_Work_load_68 : decode zb_Work_load 68 = .ok (.invokevirtual 180, 3) := by decide +kernel
theorem zd_Work_load_71 : decode zb_Work_load 71 = .ok (.i2l, 1) := by decide +kernel
theorem zd_Work_load_72 : decode zb_Work_load 72 = .ok (.goto 13, 3) := by decide +kernel
theorem zd_Work_load_75 : decode zb_Work_load 75 = .ok (.aload_n 0, 1) := by decide +kernel
theorem zd_Work_load_76 : decode zb_Work_load 76 = .ok (.getfield 15, 3) := by decide +kernel
theorem zd_Work_load_79 : decode zb_Work_load 79 = .ok (.iload 6, 2) := by decide +kernel
theorem zd_Work_load_81 : decode zb_Work_load 81 = .ok (.invokevirtual 183, 3) := by decide +kernel
theorem zd_Work_load_84 : decode zb_Work_load 84 = .ok (.i2l, 1) := by decide +kernel
theorem zd_Work_load_85 : decode zb_Work_load 85 = .ok (.invokevirtual 155, 3) := by decide +kernel
theorem zd_Work_load_88 : decode zb_Work_load 88 = .ok (.iconst 0, 1) := by decide +kernel
theorem zd_Work_load_89 : decode zb_Work_load 89 = .ok (.ireturn, 1) := by decide +kernel
theorem zd_Work_store_0 : decode zb_Work_store 0 = .ok (.iload_n 1, 1) := by decide +kernel
theorem zd_Work_store_1 : decode zb_Work_store 1 = .ok (.ifCond .eq 17, 3) := by decide +kernel
theorem zd_Work_store_4 : decode zb_Work_store 4 = .ok (.aload_n 0, 1) := by decide +kernel
theorem zd_Work_store_5 : decode zb_Work_store 5 = .ok (.getfield 15, 3) := by decide +kernel
theorem zd_Work_store_8 : decode zb_Work_store 8 = .ok (.lload_n 2, 1) := by decide +kernel
theorem zd_Work_store_9 : decode zb_Work_store 9 = .ok (.invokevirtual 171, 3) := by decide +kernel
theorem zd_Work_store_12 : decode zb_Work_store 12 = .ok (.ifCond .ne 19, 3) := by decide +kernel
theorem zd_Work_store_15 : decode zb_Work_store 15 = .ok (.goto 14, 3) := by decide +kernel
theorem zd_Work_store_18 : decode zb_Work_store 18 = .ok (.aload_n 0, 1) := by decide +kernel
theorem zd_Work_store_19 : decode zb_Work_store 19 = .ok (.getfield 15, 3) := by decide +kernel
theorem zd_Work_store_22 : decode zb_Work_store 22 = .ok (.lload_n 2, 1) := by decide +kernel
theorem zd_Work_store_23 : decode zb_Work_store 23 = .ok (.invokevirtual 177, 3) := by decide +kernel
theorem zd_Work_store_26 : decode zb_Work_store 26 = .ok (.ifCond .ne 5, 3) := by decide +kernel
theorem zd_Work_store_29 : decode zb_Work_store 29 = .ok (.iconst 3, 1) := by decide +kernel
theorem zd_Work_store_30 : decode zb_Work_store 30 = .ok (.ireturn, 1) := by decide +kernel
theorem zd_Work_store_31 : decode zb_Work_store 31 = .ok (.aload_n 0, 1) := by decide +kernel
theorem zd_Work_store_32 : decode zb_Work_store 32 = .ok (.getfield 31, 3) := by decide +kernel
theorem zd_Work_store_35 : decode zb_Work_store 35 = .ok (.iconst 5, 1) := by decide +kernel
theorem zd_Work_store_36 : decode zb_Work_store 36 = .ok (.dup2, 1) := by decide +kernel
theorem zd_Work_store_37 : decode zb_Work_store 37 = .ok (.iaload, 1) := by decide +kernel
theorem zd_Work_store_38 : decode zb_Work_store 38 = .ok (.iload_n 1, 1) := by decide +kernel
theorem zd_Work_store_39 : decode zb_Work_store 39 = .ok (.ifCond .eq 7, 3) := by decide +kernel
theorem zd_Work_store_42 : decode zb_Work_store 42 = .ok (.iconst 2, 1) := by decide +kernel
theorem zd_Work_store_43 : decode zb_Work_store 43 = .ok (.goto 4, 3) := by decide +kernel
theorem zd_Work_store_46 : decode zb_Work_store 46 = .ok (.iconst 1, 1) := by decide +kernel
theorem zd_Work_store_47 : decode zb_Work_store 47 = .ok (.iadd, 1) := by decide +kernel
theorem zd_Work_store_48 : decode zb_Work_store 48 = .ok (.iastore, 1) := by decide +kernel
theorem zd_Work_store_49 : decode zb_Work_store 49 = .ok (.aload_n 0, 1) := by decide +kernel
theorem zd_Work_store_50 : decode zb_Work_store 50 = .ok (.iload_n 1, 1) := by decide +kernel
theorem zd_Work_store_51 : decode zb_Work_store 51 = .ok (.ifCond .eq 7, 3) := by decide +kernel
theorem zd_Work_store_54 : decode zb_Work_store 54 = .ok (.iconst 4, 1) := by decide +kernel
theorem zd_Work_store_55 : decode zb_Work_store 55 = .ok (.goto 4, 3) := by decide +kernel
theorem zd_Work_store_58 : decode zb_Work_store 58 = .ok (.iconst 3, 1) := by decide +kernel
theorem zd_Work_store_59 : decode zb_Work_store 59 = .ok (.lload_n 2, 1) := by decide +kernel
theorem zd_Work_store_60 : decode zb_Work_store 60 = .ok (.l2i, 1) := by decide +kernel
theorem zd_Work_store_61 : decode zb_Work_store 61 = .ok (.lload 4, 2) := by decide +kernel
theorem zd_Work_store_63 : decode zb_Work_store 63 = .ok (.invokevirtual 155, 3) := by decide +kernel
theorem zd_Work_store_66 : decode zb_Work_store 66 = .ok (.iconst 0, 1) := by decide +kernel
theorem zd_Work_store_67 : decode zb_Work_store 67 = .ok (.ireturn, 1) := by decide +kernel
theorem zd_Work_goBack_0 : decode zb_Work_goBack 0 = .ok (.aload_n 0, 1) := by decide +kernel
theorem zd_Work_goBack_1 : decode zb_Work_goBack 1 = .ok (.getfield 27, 3) := by decide +kernel
theorem zd_Work_goBack_4 : decode zb_Work_goBack 4 = .ok (.invokevirtual 186, 3) := by decide +kernel
theorem zd_Work_goBack_7 : decode zb_Work_goBack 7 = .ok (.istore_n 1, 1) := by decide +kernel
theorem zd_Work_goBack_8 : decode zb_Work_goBack 8 = .ok (.iload_n 1, 1) := by decide +kernel
theorem zd_Work_goBack_9 : decode zb_Work_goBack 9 = .ok (.iconst (-1), 1) := by decide +kernel
theorem zd_Work_goBack_10 : decode zb_Work_goBack 10 = .ok (.if_icmp .ne 6, 3) := by decide +kernel
theorem zd_Work_goBack_13 : decode zb_Work_goBack 13 = .ok (.bipush 6, 2) := by decide +kernel
theorem zd_Work_goBack_15 : decode zb_Work_goBack 15 = .ok (.ireturn, 1) := by decide +kernel
theorem zd_Work_goBack_16 : decode zb_Work_goBack 16 = .ok (.aload_n 0, 1) := by decide +kernel
theorem zd_Work_goBack_17 : decode zb_Work_goBack 17 = .ok (.getfield 92, 3) := by decide +kernel
theorem zd_Work_goBack_20 : decode zb_Work_goBack 20 = .ok (.ifCond .eq 16, 3) := by decide +kernel
theorem zd_Work_goBack_23 : decode zb_Work_goBack 23 = .ok (.aload_n 0, 1) := by decide +kernel
theorem zd_Work_goBack_24 : decode zb_Work_goBack 24 = .ok (.iload_n 1, 1) := by decide +kernel
theorem zd_Work_goBack_25 : decode zb_Work_goBack 25 = .ok (.putfield 101, 3) := by decide +kernel
theorem zd_Work_goBack_28 : decode zb_Work_goBack 28 = .ok (.aload_n 0, 1) := by decide +kernel
theorem zd_Work_goBack_29 : decode zb_Work_goBack 29 = .ok (.iconst 1, 1) := by decide +kernel
theorem zd_Work_goBack_30 : decode zb_Work_goBack 30 = .ok (.putfield 95, 3) := by decide +kernel
theorem zd_Work_goBack_33 : decode zb_Work_goBack 33 = .ok (.goto 11, 3) := by decide +kernel
theorem zd_Work_goBack_36 : decode zb_Work_goBack 36 = .ok (.aload_n 0, 1) := by decide +kernel
theorem zd_Work_goBack_37 : decode zb_Work_goBack 37 = .ok (.iconst 0, 1) := by decide +kernel
theorem zd_Work_goBack_38 : decode zb_Work_goBack 38 = .ok (.iconst 0, 1) := by decide +kernel
theorem zd_Work_goBack_39 : decode zb_Work_goBack 39 = .ok (.iload_n 1, 1) := by decide +kernel
theorem zd_Work_goBack_40 : decode zb_Work_goBack 40 = .ok (.i2l, 1) := by decide +kernel
theorem zd_Work_goBack_41 : decode zb_Work_goBack 41 = .ok (.invokevirtual 155, 3) := by decide +kernel
theorem zd_Work_goBack_44 : decode zb_Work_goBack 44 = .ok (.iconst 0, 1) := by decide +kernel
theorem zd_Work_goBack_45 : decode zb_Work_goBack 45 = .ok (.ireturn, 1) := by decide +kernel
theorem zd_Work_write_0 : decode zb_Work_write 0 = .ok (.iload_n 2, 1) := by decide +kernel
theorem zd_Work_write_1 : decode zb_Work_write 1 = .ok (.ifCond .ne 17, 3) := by decide +kernel
theorem zd_Work_write_4 : decode zb_Work_write 4 = .ok (.iload_n 1, 1) := by decide +kernel
theorem zd_Work_write_5 : decode zb_Work_write 5 = .ok (.ifCond .eq 8, 3) := by decide +kernel
theorem zd_Work_write_8 : decode zb_Work_write 8 = .ok (.iload_n 1, 1) := by decide +kernel
theorem zd_Work_write_9 : decode zb_Work_write 9 = .ok (.iconst 1, 1) := by decide +kernel
theorem zd_Work_write_10 : decode zb_Work_write 10 = .ok (.if_icmp .ne 8, 3) := by decide +kernel
theorem zd_Work_write_13 : decode zb_Work_write 13 = .ok (.aload_n 0, 1) := by decide +kernel
theorem zd_Work_write_14 : decode zb_Work_write 14 = .ok (.iconst 1, 1) := by decide +kernel
theorem zd_Work_write_15 : decode zb_Work_write 15 = .ok (.putfield 95, 3) := by decide +kernel
theorem zd_Work_write_18 : decode zb_Work_write 18 = .ok (.aload_n 0, 1) := by decide +kernel
theorem zd_Work_write_19 : decode zb_Work_write 19 = .ok (.getfield 92, 3) := by decide +kernel
theorem zd_Work_write_22 : decode zb_Work_write 22 = .ok (.ifCond .eq 14, 3) := by decide +kernel
theorem zd_Work_write_25 : decode zb_Work_write 25 = .ok (.aload_n 0, 1) := by decide +kernel
theorem zd_Work_write_26 : decode zb_Work_write 26 = .ok (.getfield 40, 3) := by decide +kernel
theorem zd_Work_write_29 : decode zb_Work_write 29 = .ok (.iload_n 1, 1) := by decide +kernel
theorem zd_Work_write_30 : decode zb_Work_write 30 = .ok (.iload_n 2, 1) := by decide +kernel
theorem zd_Work_write_31 : decode zb_Work_write 31 = .ok (.lload_n 3, 1) := by decide +kernel
theorem zd_Work_write_32 : decode zb_Work_write 32 = .ok (.invokevirtual 187, 3) := by decide +kernel
theorem zd_Work_write_35 : decode zb_Work_write 35 = .ok (.return_, 1) := by decide +kernel
theorem zd_Work_write_36 : decode zb_Work_write 36 = .ok (.aload_n 0, 1) := by decide +kernel
theorem zd_Work_write_37 : decode zb_Work_write 37 = .ok (.getfield 76, 3) := by decide +kernel
theorem zd_Work_write_40 : decode zb_Work_write 40 = .ok (.ifCond .eq 12, 3) := by decide +kernel
theorem zd_Work_write_43 : decode zb_Work_write 43 = .ok (.aload_n 0, 1) := by decide +kernel
theorem zd_Work_write_44 : decode zb_Work_write 44 = .ok (.getfield 40, 3) := by decide +kernel
theorem zd_Work_write_47 : decode zb_Work_write 47 = .ok (.iload_n 1, 1) := by decide +kernel
theorem zd_Work_write_48 : decode zb_Work_write 48 = .ok (.iload_n 2, 1) := by decide +kernel
theorem zd_Work_write_49 : decode zb_Work_write 49 = .ok (.invokevirtual 190, 3) := by decide +kernel
theorem zd_Work_write_52 : decode zb_Work_write 52 = .ok (.aload_n 0, 1) := by decide +kernel
theorem zd_Work_write_53 : decode zb_Work_write 53 = .ok (.getfield 40, 3) := by decide +kernel
theorem zd_Work_write_56 : decode zb_Work_write 56 = .ok (.iload_n 1, 1) := by decide +kernel
theorem zd_Work_write_57 : decode zb_Work_write 57 = .ok (.iload_n 2, 1) := by decide +kernel
theorem zd_Work_write_58 : decode zb_Work_write 58 = .ok (.lload_n 3, 1) := by decide +kernel
theorem zd_Work_write_59 : decode zb_Work_write 59 = .ok (.invokevirtual 193, 3) := by decide +kernel
theorem zd_Work_write_62 : decode zb_Work_write 62 = .ok (.return_, 1) := by decide +kernel
theorem zd_Work_result_0 : decode zb_Work_result 0 = .ok (.iload_n 0, 1) := by decide +kernel
theorem zd_Work_result_1 : decode zb_Work_result 1 = .ok (.tableswitch 159 1 12 #[63, 67, 71, 159, 159, 75, 79, 83, 87, 110, 133, 147], 63) := by decide +kernel
theorem zd_Work_result_64 : decode zb_Work_result 64 = .ok (.lload_n 1, 1) := by decide +kernel
theorem zd_Work_result_65 : decode zb_Work_result 65 = .ok (.lload_n 3, 1) := by decide +kernel
theorem zd_Work_result_66 : decode zb_Work_result 66 = .ok (.ladd, 1) := by decide +kernel
theorem zd_Work_result_67 : decode zb_Work_result 67 = .ok (.lreturn, 1) := by decide +kernel
theorem zd_Work_result_68 : decode zb_Work_result 68 = .ok (.lload_n 1, 1) := by decide +kernel
theorem zd_Work_result_69 : decode zb_Work_result 69 = .ok (.lload_n 3, 1) := by decide +kernel
theorem zd_Work_result_70 : decode zb_Work_result 70 = .ok (.lsub, 1) := by decide +kernel
theorem zd_Work_result_71 : decode zb_Work_result 71 = .ok (.lreturn, 1) := by decide +kernel
theorem zd_Work_result_72 : decode zb_Work_result 72 = .ok (.lload_n 1, 1) := by decide +kernel
theorem zd_Work_result_73 : decode zb_Work_result 73 = .ok (.lload_n 3, 1) := by decide +kernel
theorem zd_Work_result_74 : decode zb_Work_result 74 = .ok (.lmul, 1) := by decide +kernel
theorem zd_Work_result_75 : decode zb_Work_result 75 = .ok (.lreturn, 1) := by decide +kernel
theorem zd_Work_result_76 : decode zb_Work_result 76 = .ok (.lload_n 1, 1) := by decide +kernel
theorem zd_Work_result_77 : decode zb_Work_result 77 = .ok (.lload_n 3, 1) := by decide +kernel
theorem zd_Work_result_78 : decode zb_Work_result 78 = .ok (.land, 1) := by decide +kernel
theorem zd_Work_result_79 : decode zb_Work_result 79 = .ok (.lreturn, 1) := by decide +kernel
theorem zd_Work_result_80 : decode zb_Work_result 80 = .ok (.lload_n 1, 1) := by decide +kernel
theorem zd_Work_result_81 : decode zb_Work_result 81 = .ok (.lload_n 3, 1) := by decide +kernel
theorem zd_Work_result_82 : decode zb_Work_result 82 = .ok (.lor, 1) := by decide +kernel
theorem zd_Work_result_83 : decode zb_Work_result 83 = .ok (.lreturn, 1) := by decide +kernel
theorem zd_Work_result_84 : decode zb_Work_result 84 = .ok (.lload_n 1, 1) := by decide +kernel
theorem zd_Work_result_85 : decode zb_Work_result 85 = .ok (.lload_n 3, 1) := by decide +kernel
theorem zd_Work_result_86 : decode zb_Work_result 86 = .ok (.lxor, 1) := by decide +kernel
theorem zd_Work_result_87 : decode zb_Work_result 87 = .ok (.lreturn, 1) := by decide +kernel
theorem zd_Work_result_88 : decode zb_Work_result 88 = .ok (.lload_n 3, 1) := by decide +kernel
theorem zd_Work_result_89 : decode zb_Work_result 89 = .ok (.lconst 0, 1) := by decide +kernel
theorem zd_Work_result_90 : decode zb_Work_result 90 = .ok (.lcmp, 1) := by decide +kernel
theorem zd_Work_result_91 : decode zb_Work_result 91 = .ok (.ifCond .lt 18, 3) := by decide +kernel
theorem zd_Work_result_94 : decode zb_Work_result 94 = .ok (.lload_n 3, 1) := by decide +kernel
theorem zd_Work_result_95 : decode zb_Work_result 95 = .ok (.ldc2_w 196, 3) := by decide +kernel
theorem zd_Work_result_98 : decode zb_Work_result 98 = .ok (.lcmp, 1) := by decide +kernel
theorem zd_Work_result_99 : decode zb_Work_result 99 = .ok (.ifCond .gt 10, 3) := by decide +kernel
theorem zd_Work_result_102 : decode zb_Work_result 102 = .ok (.lload_n 1, 1) := by decide +kernel
theorem zd_Work_result_103 : decode zb_Work_result 103 = .ok (.lload_n 3, 1) := by decide +kernel
theorem zd_Work_result_104 : decode zb_Work_result 104 = .ok (.l2i, 1) := by decide +kernel
theorem zd_Work_result_105 : decode zb_Work_result 105 = .ok (.lshl, 1) := by decide +kernel
theorem zd_Work_result_106 : decode zb_Work_result 106 = .ok (.goto 4, 3) := by decide +kernel
theorem zd_Work_result_109 : decode zb_Work_result 109 = .ok (.lconst 0, 1) := by decide +kernel
theorem zd_Work_result_110 : decode zb_Work_result 110 = .ok (.lreturn, 1) := by decide +kernel
theorem zd_Work_result_111 : decode zb_Work_result 111 = .ok (.lload_n 3, 1) := by decide +kernel
theorem zd_Work_result_112 : decode zb_Work_result 112 = .ok (.lconst 0, 1) := by decide +kernel
theorem zd_Work_result_113 : decode zb_Work_result 113 = .ok (.lcmp, 1) := by decide +kernel
theorem zd_Work_result_114 : decode zb_Work_result 114 = .ok (.ifCond .lt 18, 3) := by decide +kernel
theorem zd_Work_result_117 : decode zb_Work_result 117 = .ok (.lload_n 3, 1) := by decide +kernel
theorem zd_Work_result_118 : decode zb_Work_result 118 = .ok (.ldc2_w 196, 3) := by decide +kernel
theorem zd_Work_result_121 : decode zb_Work_result 121 = .ok (.lcmp, 1) := by decide +kernel
theorem zd_Work_result_122 : decode zb_Work_result 122 = .ok (.ifCond .gt 10, 3) := by decide +kernel
theorem zd_Work_result_125 : decode zb_Work_result 125 = .ok (.lload_n 1, 1) := by decide +kernel
theorem zd_Work_result_126 : decode zb_Work_result 126 = .ok (.lload_n 3, 1) := by decide +kernel
theorem zd_Work_result_127 : decode zb_Work_result 127 = .ok (.l2i, 1) := by decide +kernel
theorem zd_Work_result_128 : decode zb_Work_result 128 = .ok (.lushr, 1) := by decide +kernel
theorem zd_Work_result_129 : decode zb_Work_result 129 = .ok (.goto 4, 3) := by decide +kernel
theorem zd_Work_result_132 : decode zb_Work_result 132 = .ok (.lconst 0, 1) := by decide +kernel
theorem zd_Work_result_133 : decode zb_Work_result 133 = .ok (.lreturn, 1) := by decide +kernel
theorem zd_Work_result_134 : decode zb_Work_result 134 = .ok (.lload_n 1, 1) := by decide +kernel
theorem zd_Work_result_135 : decode zb_Work_result 135 = .ok (.lload_n 3, 1) := by decide +kernel
theorem zd_Work_result_136 : decode zb_Work_result 136 = .ok (.invokestatic 198, 3) := by decide +kernel
theorem zd_Work_result_139 : decode zb_Work_result 139 = .ok (.ifCond .eq 7, 3) := by decide +kernel
theorem zd_Work_result_142 : decode zb_Work_result 142 = .ok (.lconst 1, 1) := by decide +kernel
theorem zd_Work_result_143 : decode zb_Work_result 143 = .ok (.goto 4, 3) := by decide +kernel
theorem zd_Work_result_146 : decode zb_Work_result 146 = .ok (.lconst 0, 1) := by decide +kernel
theorem zd_Work_result_147 : decode zb_Work_result 147 = .ok (.lreturn, 1) := by decide +kernel
theorem zd_Work_result_148 : decode zb_Work_result 148 = .ok (.lload_n 1, 1) := by decide +kernel
theorem zd_Work_result_149 : decode zb_Work_result 149 = .ok (.lload_n 3, 1) := by decide +kernel
theorem zd_Work_result_150 : decode zb_Work_result 150 = .ok (.lcmp, 1) := by decide +kernel
theorem zd_Work_result_151 : decode zb_Work_result 151 = .ok (.ifCond .ne 7, 3) := by decide +kernel
theorem zd_Work_result_154 : decode zb_Work_result 154 = .ok (.lconst 1, 1) := by decide +kernel
theorem zd_Work_result_155 : decode zb_Work_result 155 = .ok (.goto 4, 3) := by decide +kernel
theorem zd_Work_result_158 : decode zb_Work_result 158 = .ok (.lconst 0, 1) := by decide +kernel
theorem zd_Work_result_159 : decode zb_Work_result 159 = .ok (.lreturn, 1) := by decide +kernel
theorem zd_Work_result_160 : decode zb_Work_result 160 = .ok (.lload_n 1, 1) := by decide +kernel
theorem zd_Work_result_161 : decode zb_Work_result 161 = .ok (.lreturn, 1) := by decide +kernel
theorem zd_Work_isBelow_0 : decode zb_Work_isBelow 0 = .ok (.lload_n 0, 1) := by decide +kernel
theorem zd_Work_isBelow_1 : decode zb_Work_isBelow 1 = .ok (.ldc2_w 202, 3) := by decide +kernel
theorem zd_Work_isBelow_4 : decode zb_Work_isBelow 4 = .ok (.lxor, 1) := by decide +kernel
theorem zd_Work_isBelow_5 : decode zb_Work_isBelow 5 = .ok (.lload_n 2, 1) := by decide +kernel
theorem zd_Work_isBelow_6 : decode zb_Work_isBelow 6 = .ok (.ldc2_w 202, 3) := by decide +kernel
theorem zd_Work_isBelow_9 : decode zb_Work_isBelow 9 = .ok (.lxor, 1) := by decide +kernel
theorem zd_Work_isBelow_10 : decode zb_Work_isBelow 10 = .ok (.lcmp, 1) := by decide +kernel
theorem zd_Work_isBelow_11 : decode zb_Work_isBelow 11 = .ok (.ifCond .ge 7, 3) := by decide +kernel
theorem zd_Work_isBelow_14 : decode zb_Work_isBelow 14 = .ok (.iconst 1, 1) := by decide +kernel
theorem zd_Work_isBelow_15 : decode zb_Work_isBelow 15 = .ok (.goto 4, 3) := by decide +kernel
theorem zd_Work_isBelow_18 : decode zb_Work_isBelow 18 = .ok (.iconst 0, 1) := by decide +kernel
theorem zd_Work_isBelow_19 : decode zb_Work_isBelow 19 = .ok (.ireturn, 1) := by decide +kernel
theorem zd_Work_quotient_0 : decode zb_Work_quotient 0 = .ok (.lload_n 2, 1) := by decide +kernel
theorem zd_Work_quotient_1 : decode zb_Work_quotient 1 = .ok (.lconst 0, 1) := by decide +kernel
theorem zd_Work_quotient_2 : decode zb_Work_quotient 2 = .ok (.lcmp, 1) := by decide +kernel
theorem zd_Work_quotient_3 : decode zb_Work_quotient 3 = .ok (.ifCond .gt 23, 3) := by decide +kernel
theorem zd_Work_quotient_6 : decode zb_Work_quotient 6 = .ok (.lload_n 2, 1) := by decide +kernel
theorem zd_Work_quotient_7 : decode zb_Work_quotient 7 = .ok (.lconst 0, 1) := by decide +kernel
theorem zd_Work_quotient_8 : decode zb_Work_quotient 8 = .ok (.lcmp, 1) := by decide +kernel
theorem zd_Work_quotient_9 : decode zb_Work_quotient 9 = .ok (.ifCond .eq 11, 3) := by decide +kernel
theorem zd_Work_quotient_12 : decode zb_Work_quotient 12 = .ok (.lload_n 0, 1) := by decide +kernel
theorem zd_Work_quotient_13 : decode zb_Work_quotient 13 = .ok (.lload_n 2, 1) := by decide +kernel
theorem zd_Work_quotient_14 : decode zb_Work_quotient 14 = .ok (.invokestatic 198, 3) := by decide +kernel
theorem zd_Work_quotient_17 : decode zb_Work_quotient 17 = .ok (.ifCond .eq 7, 3) := by decide +kernel
theorem zd_Work_quotient_20 : decode zb_Work_quotient 20 = .ok (.lconst 0, 1) := by decide +kernel
theorem zd_Work_quotient_21 : decode zb_Work_quotient 21 = .ok (.goto 4, 3) := by decide +kernel
theorem zd_Work_quotient_24 : decode zb_Work_quotient 24 = .ok (.lconst 1, 1) := by decide +kernel
theorem zd_Work_quotient_25 : decode zb_Work_quotient 25 = .ok (.lreturn, 1) := by decide +kernel
theorem zd_Work_quotient_26 : decode zb_Work_quotient 26 = .ok (.lload_n 0, 1) := by decide +kernel
theorem zd_Work_quotient_27 : decode zb_Work_quotient 27 = .ok (.lconst 0, 1) := by decide +kernel
theorem zd_Work_quotient_28 : decode zb_Work_quotient 28 = .ok (.lcmp, 1) := by decide +kernel
theorem zd_Work_quotient_29 : decode zb_Work_quotient 29 = .ok (.ifCond .lt 7, 3) := by decide +kernel
theorem zd_Work_quotient_32 : decode zb_Work_quotient 32 = .ok (.lload_n 0, 1) := by decide +kernel
theorem zd_Work_quotient_33 : decode zb_Work_quotient 33 = .ok (.lload_n 2, 1) := by decide +kernel
theorem zd_Work_quotient_34 : decode zb_Work_quotient 34 = .ok (.ldiv, 1) := by decide +kernel
theorem zd_Work_quotient_35 : decode zb_Work_quotient 35 = .ok (.lreturn, 1) := by decide +kernel
theorem zd_Work_quotient_36 : decode zb_Work_quotient 36 = .ok (.lload_n 0, 1) := by decide +kernel
theorem zd_Work_quotient_37 : decode zb_Work_quotient 37 = .ok (.iconst 1, 1) := by decide +kernel
theorem zd_Work_quotient_38 : decode zb_Work_quotient 38 = .ok (.lushr, 1) := by decide +kernel
theorem zd_Work_quotient_39 : decode zb_Work_quotient 39 = .ok (.lload_n 2, 1) := by decide +kernel
theorem zd_Work_quotient_40 : decode zb_Work_quotient 40 = .ok (.ldiv, 1) := by decide +kernel
theorem zd_Work_quotient_41 : decode zb_Work_quotient 41 = .ok (.iconst 1, 1) := by decide +kernel
theorem zd_Work_quotient_42 : decode zb_Work_quotient 42 = .ok (.lshl, 1) := by decide +kernel
theorem zd_Work_quotient_43 : decode zb_Work_quotient 43 = .ok (.lstore 4, 2) := by decide +kernel
theorem zd_Work_quotient_45 : decode zb_Work_quotient 45 = .ok (.lload_n 0, 1) := by decide +kernel
theorem zd_Work_quotient_46 : decode zb_Work_quotient 46 = .ok (.lload 4, 2) := by decide +kernel
theorem zd_Work_quotient_48 : decode zb_Work_quotient 48 = .ok (.lload_n 2, 1) := by decide +kernel
theorem zd_Work_quotient_49 : decode zb_Work_quotient 49 = .ok (.lmul, 1) := by decide +kernel
theorem zd_Work_quotient_50 : decode zb_Work_quotient 50 = .ok (.lsub, 1) := by decide +kernel
theorem zd_Work_quotient_51 : decode zb_Work_quotient 51 = .ok (.lload_n 2, 1) := by decide +kernel
theorem zd_Work_quotient_52 : decode zb_Work_quotient 52 = .ok (.invokestatic 198, 3) := by decide +kernel
theorem zd_Work_quotient_55 : decode zb_Work_quotient 55 = .ok (.ifCond .eq 8, 3) := by decide +kernel
theorem zd_Work_quotient_58 : decode zb_Work_quotient 58 = .ok (.lload 4, 2) := by decide +kernel
theorem zd_Work_quotient_60 : decode zb_Work_quotient 60 = .ok (.goto 7, 3) := by decide +kernel
theorem zd_Work_quotient_63 : decode zb_Work_quotient 63 = .ok (.lload 4, 2) := by decide +kernel
theorem zd_Work_quotient_65 : decode zb_Work_quotient 65 = .ok (.lconst 1, 1) := by decide +kernel
theorem zd_Work_quotient_66 : decode zb_Work_quotient 66 = .ok (.ladd, 1) := by decide +kernel
theorem zd_Work_quotient_67 : decode zb_Work_quotient 67 = .ok (.lreturn, 1) := by decide +kernel
theorem zd_Machine_init_0 : decode zb_Machine_init 0 = .ok (.aload_n 0, 1) := by decide +kernel
theorem zd_Machine_init_1 : decode zb_Machine_init 1 = .ok (.invokespecial 3, 3) := by decide +kernel
theorem zd_Machine_init_4 : decode zb_Machine_init 4 = .ok (.aload_n 0, 1) := by decide +kernel
theorem zd_Machine_init_5 : decode zb_Machine_init 5 = .ok (.iconst (-1), 1) := by decide +kernel
theorem zd_Machine_init_6 : decode zb_Machine_init 6 = .ok (.putfield 9, 3) := by decide +kernel
theorem zd_Machine_init_9 : decode zb_Machine_init 9 = .ok (.aload_n 0, 1) := by decide +kernel
theorem zd_Machine_init_10 : decode zb_Machine_init 10 = .ok (.iconst 0, 1) := by decide +kernel
theorem zd_Machine_init_11 : decode zb_Machine_init 11 = .ok (.putfield 15, 3) := by decide +kernel
theorem zd_Machine_init_14 : decode zb_Machine_init 14 = .ok (.aload_n 0, 1) := by decide +kernel
theorem zd_Machine_init_15 : decode zb_Machine_init 15 = .ok (.aload_n 1, 1) := by decide +kernel
theorem zd_Machine_init_16 : decode zb_Machine_init 16 = .ok (.putfield 18, 3) := by decide +kernel
theorem zd_Machine_init_19 : decode zb_Machine_init 19 = .ok (.aload_n 0, 1) := by decide +kernel
theorem zd_Machine_init_20 : decode zb_Machine_init 20 = .ok (.aload_n 2, 1) := by decide +kernel
theorem zd_Machine_init_21 : decode zb_Machine_init 21 = .ok (.putfield 22, 3) := by decide +kernel
theorem zd_Machine_init_24 : decode zb_Machine_init 24 = .ok (.aload_n 0, 1) := by decide +kernel
theorem zd_Machine_init_25 : decode zb_Machine_init 25 = .ok (.aload_n 3, 1) := by decide +kernel
theorem zd_Machine_init_26 : decode zb_Machine_init 26 = .ok (.putfield 26, 3) := by decide +kernel
theorem zd_Machine_init_29 : decode zb_Machine_init 29 = .ok (.aload_n 0, 1) := by decide +kernel
theorem zd_Machine_init_30 : decode zb_Machine_init 30 = .ok (.aload 4, 2) := by decide +kernel
theorem zd_Machine_init_32 : decode zb_Machine_init 32 = .ok (.putfield 30, 3) := by decide +kernel
theorem zd_Machine_init_35 : decode zb_Machine_init 35 = .ok (.aload_n 0, 1) := by decide +kernel
theorem zd_Machine_init_36 : decode zb_Machine_init 36 = .ok (.aload 5, 2) := by decide +kernel
theorem zd_Machine_init_38 : decode zb_Machine_init 38 = .ok (.putfield 34, 3) := by decide +kernel
theorem zd_Machine_init_41 : decode zb_Machine_init 41 = .ok (.aload_n 0, 1) := by decide +kernel
theorem zd_Machine_init_42 : decode zb_Machine_init 42 = .ok (.aload 6, 2) := by decide +kernel
theorem zd_Machine_init_44 : decode zb_Machine_init 44 = .ok (.putfield 38, 3) := by decide +kernel
theorem zd_Machine_init_47 : decode zb_Machine_init 47 = .ok (.aload_n 0, 1) := by decide +kernel
theorem zd_Machine_init_48 : decode zb_Machine_init 48 = .ok (.aload 7, 2) := by decide +kernel
theorem zd_Machine_init_50 : decode zb_Machine_init 50 = .ok (.putfield 42, 3) := by decide +kernel
theorem zd_Machine_init_53 : decode zb_Machine_init 53 = .ok (.return_, 1) := by decide +kernel
theorem zd_Machine_loseWaiting_0 : decode zb_Machine_loseWaiting 0 = .ok (.aload_n 0, 1) := by decide +kernel
theorem zd_Machine_loseWaiting_1 : decode zb_Machine_loseWaiting 1 = .ok (.iconst (-1), 1) := by decide +kernel
theorem zd_Machine_loseWaiting_2 : decode zb_Machine_loseWaiting 2 = .ok (.putfield 9, 3) := by decide +kernel
theorem zd_Machine_loseWaiting_5 : decode zb_Machine_loseWaiting 5 = .ok (.return_, 1) := by decide +kernel
theorem zd_Machine_takeStep_0 : decode zb_Machine_takeStep 0 = .ok (.aload_n 0, 1) := by decide +kernel
theorem zd_Machine_takeStep_1 : decode zb_Machine_takeStep 1 = .ok (.getfield 42, 3) := by decide +kernel
theorem zd_Machine_takeStep_4 : decode zb_Machine_takeStep 4 = .ok (.iconst 0, 1) := by decide +kernel
theorem zd_Machine_takeStep_5 : decode zb_Machine_takeStep 5 = .ok (.dup2, 1) := by decide +kernel
theorem zd_Machine_takeStep_6 : decode zb_Machine_takeStep 6 = .ok (.iaload, 1) := by decide +kernel
theorem zd_Machine_takeStep_7 : decode zb_Machine_takeStep 7 = .ok (.iconst 1, 1) := by decide +kernel
theorem zd_Machine_takeStep_8 : decode zb_Machine_takeStep 8 = .ok (.iadd, 1) := by decide +kernel
theorem zd_Machine_takeStep_9 : decode zb_Machine_takeStep 9 = .ok (.iastore, 1) := by decide +kernel
theorem zd_Machine_takeStep_10 : decode zb_Machine_takeStep 10 = .ok (.aload_n 0, 1) := by decide +kernel
theorem zd_Machine_takeStep_11 : decode zb_Machine_takeStep 11 = .ok (.getfield 34, 3) := by decide +kernel
theorem zd_Machine_takeStep_14 : decode zb_Machine_takeStep 14 = .ok (.aload_n 0, 1) := by decide +kernel
theorem zd_Machine_takeStep_15 : decode zb_Machine_takeStep 15 = .ok (.getfield 30, 3) := by decide +kernel
theorem zd_Machine_takeStep_18 : decode zb_Machine_takeStep 18 = .ok (.getfield 46, 3) := by decide +kernel
theorem zd_Machine_takeStep_21 : decode zb_Machine_takeStep 21 = .ok (.invokevirtual 51, 3) := by decide +kernel
theorem zd_Machine_takeStep_24 : decode zb_Machine_takeStep 24 = .ok (.istore_n 1, 1) := by decide +kernel
theorem zd_Machine_takeStep_25 : decode zb_Machine_takeStep 25 = .ok (.iload_n 1, 1) := by decide +kernel
theorem zd_Machine_takeStep_26 : decode zb_Machine_takeStep 26 = .ok (.iconst (-1), 1) := by decide +kernel
theorem zd_Machine_takeStep_27 : decode zb_Machine_takeStep 27 = .ok (.if_icmp .eq 9, 3) := by decide +kernel
theorem zd_Machine_takeStep_30 : decode zb_Machine_takeStep 30 = .ok (.aload_n 0, 1) := by decide +kernel
theorem zd_Machine_takeStep_31 : decode zb_Machine_takeStep 31 = .ok (.iload_n 1, 1) := by decide +kernel
theorem zd_Machine_takeStep_32 : decode zb_Machine_takeStep 32 = .ok (.invokevirtual 57, 3) := by decide +kernel
theorem zd_Machine_takeStep_35 : decode zb_Machine_takeStep 35 = .ok (.return_, 1) := by decide +kernel
theorem zd_Machine_takeStep_36 : decode zb_Machine_takeStep 36 = .ok (.aload_n 0, 1) := by decide +kernel
theorem zd_Machine_takeStep_37 : decode zb_Machine_takeStep 37 = .ok (.getfield 18, 3) := by decide +kernel
theorem zd_Machine_takeStep_40 : decode zb_Machine_takeStep 40 = .ok (.invokevirtual 61, 3) := by decide +kernel
theorem zd_Machine_takeStep_43 : decode zb_Machine_takeStep 43 = .ok (.istore_n 2, 1) := by decide +kernel
theorem zd_Machine_takeStep_44 : decode zb_Machine_takeStep 44 = .ok (.aload_n 0, 1) := by decide +kernel
theorem zd_Machine_takeStep_45 : decode zb_Machine_takeStep 45 = .ok (.getfield 22, 3) := by decide +kernel
theorem zd_Machine_takeStep_48 : decode zb_Machine_takeStep 48 = .ok (.iload_n 2, 1) := by decide +kernel
theorem zd_Machine_takeStep_49 : decode zb_Machine_takeStep 49 = .ok (.i2l, 1) := by decide +kernel
theorem zd_Machine_takeStep_50 : decode zb_Machine_takeStep 50 = .ok (.invokevirtual 67, 3) := by decide +kernel
theorem zd_Machine_takeStep_53 : decode zb_Machine_takeStep 53 = .ok (.ifCond .ne 10, 3) := by decide +kernel
theorem zd_Machine_takeStep_56 : decode zb_Machine_takeStep 56 = .ok (.aload_n 0, 1) := by decide +kernel
theorem zd_Machine_takeStep_57 : decode zb_Machine_takeStep 57 = .ok (.iconst 2, 1) := by decide +kernel
theorem zd_Machine_takeStep_58 : decode zb_Machine_takeStep 58 = .ok (.iload_n 2, 1) := by decide +kernel
theorem zd_Machine_takeStep_59 : decode zb_Machine_takeStep 59 = .ok (.invokevirtual 73, 3) := by decide +kernel
theorem zd_Machine_takeStep_62 : decode zb_Machine_takeStep 62 = .ok (.return_, 1) := by decide +kernel
theorem zd_Machine_takeStep_63 : decode zb_Machine_takeStep 63 = .ok (.aload_n 0, 1) := by decide +kernel
theorem zd_Machine_takeStep_64 : decode zb_Machine_takeStep 64 = .ok (.getfield 22, 3) := by decide +kernel
theorem zd_Machine_takeStep_67 : decode zb_Machine_takeStep 67 = .ok (.iload_n 2, 1) := by decide +kernel
theorem zd_Machine_takeStep_68 : decode zb_Machine_takeStep 68 = .ok (.invokevirtual 77, 3) := by decide +kernel
theorem zd_Machine_takeStep_71 : decode zb_Machine_takeStep 71 = .ok (.istore_n 3, 1) := by decide +kernel
theorem zd_Machine_takeStep_72 : decode zb_Machine_takeStep 72 = .ok (.aload_n 0, 1) := by decide +kernel
theorem zd_Machine_takeStep_73 : decode zb_Machine_takeStep 73 = .ok (.getfield 26, 3) := by decide +kernel
theorem zd_Machine_takeStep_76 : decode zb_Machine_takeStep 76 = .ok (.iload_n 3, 1) := by decide +kernel
theorem zd_Machine_takeStep_77 : decode zb_Machine_takeStep 77 = .ok (.invokevirtual 80, 3) := by decide +kernel
theorem zd_Machine_takeStep_80 : decode zb_Machine_takeStep 80 = .ok (.istore 4, 2) := by decide +kernel
theorem zd_Machine_takeStep_82 : decode zb_Machine_takeStep 82 = .ok (.iload 4, 2) := by decide +kernel
theorem zd_Machine_takeStep_84 : decode zb_Machine_takeStep 84 = .ok (.iconst (-1), 1) := by decide +kernel
theorem zd_Machine_takeStep_85 : decode zb_Machine_takeStep 85 = .ok (.if_icmp .ne 10, 3) := by decide +kernel
theorem zd_Machine_takeStep_88 : decode zb_Machine_takeStep 88 = .ok (.aload_n 0, 1) := by decide +kernel
theorem zd_Machine_takeStep_89 : decode zb_Machine_takeStep 89 = .ok (.iconst 1, 1) := by decide +kernel
theorem zd_Machine_takeStep_90 : decode zb_Machine_takeStep 90 = .ok (.iload_n 2, 1) := by decide +kernel
theorem zd_Machine_takeStep_91 : decode zb_Machine_takeStep 91 = .ok (.invokevirtual 73, 3) := by decide +kernel
theorem zd_Machine_takeStep_94 : decode zb_Machine_takeStep 94 = .ok (.return_, 1) := by decide +kernel
theorem zd_Machine_takeStep_95 : decode zb_Machine_takeStep 95 = .ok (.aload_n 0, 1) := by decide +kernel
theorem zd_Machine_takeStep_96 : decode zb_Machine_takeStep 96 = .ok (.getfield 18, 3) := by decide +kernel
theorem zd_Machine_takeStep_99 : decode zb_Machine_takeStep 99 = .ok (.iload_n 2, 1) := by decide +kernel
theorem zd_Machine_takeStep_100 : decode zb_Machine_takeStep 100 = .ok (.iconst 2, 1) := by decide +kernel
theorem zd_Machine_takeStep_101 : decode zb_Machine_takeStep 101 = .ok (.iadd, 1) := by decide +kernel
theorem zd_Machine_takeStep_102 : decode zb_Machine_takeStep 102 = .ok (.invokevirtual 85, 3) := by decide +kernel
theorem zd_Machine_takeStep_105 : decode zb_Machine_takeStep 105 = .ok (.aload_n 0, 1) := by decide +kernel
theorem zd_Machine_takeStep_106 : decode zb_Machine_takeStep 106 = .ok (.getfield 38, 3) := by decide +kernel
theorem zd_Machine_takeStep_109 : decode zb_Machine_takeStep 109 = .ok (.iload 4, 2) := by decide +kernel
theorem zd_Machine_takeStep_111 : decode zb_Machine_takeStep 111 = .ok (.iload_n 3, 1) := by decide +kernel
theorem zd_Machine_takeStep_112 : decode zb_Machine_takeStep 112 = .ok (.invokevirtual 88, 3) := by decide +kernel
theorem zd_Machine_takeStep_115 : decode zb_Machine_takeStep 115 = .ok (.istore 5, 2) := by decide +kernel
theorem zd_Machine_takeStep_117 : decode zb_Machine_takeStep 117 = .ok (.aload_n 0, 1) := by decide +kernel
theorem zd_Machine_takeStep_118 : decode zb_Machine_takeStep 118 = .ok (.getfield 38, 3) := by decide +kernel
theorem zd_Machine_takeStep_121 : decode zb_Machine_takeStep 121 = .ok (.getfield 94, 3) := by decide +kernel
theorem zd_Machine_takeStep_124 : decode zb_Machine_takeStep 124 = .ok (.ifCond .eq 8, 3) := by decide +kernel
theorem zd_Machine_takeStep_127 : decode zb_Machine_takeStep 127 = .ok (.aload_n 0, 1) := by decide +kernel
theorem zd_Machine_takeStep_128 : decode zb_Machine_takeStep 128 = .ok (.iconst 1, 1) := by decide +kernel
theorem zd_Machine_takeStep_129 : decode zb_Machine_takeStep 129 = .ok (.putfield 15, 3) := by decide +kernel
theorem zd_Machine_takeStep_132 : decode zb_Machine_takeStep 132 = .ok (.iload 5, 2) := by decide +kernel
theorem zd_Machine_takeStep_134 : decode zb_Machine_takeStep 134 = .ok (.ifCond .ne 33, 3) := by decide +kernel
theorem zd_Machine_takeStep_137 : decode zb_Machine_takeStep 137 = .ok (.aload_n 0, 1) := by decide +kernel
theorem zd_Machine_takeStep_138 : decode zb_Machine_takeStep 138 = .ok (.getfield 42, 3) := by decide +kernel
theorem zd_Machine_takeStep_141 : decode zb_Machine_takeStep 141 = .ok (.iconst 1, 1) := by decide +kernel
theorem zd_Machine_takeStep_142 : decode zb_Machine_takeStep 142 = .ok (.dup2, 1) := by decide +kernel
theorem zd_Machine_takeStep_143 : decode zb_Machine_takeStep 143 = .ok (.iaload, 1) := by decide +kernel
theorem zd_Machine_takeStep_144 : decode zb_Machine_takeStep 144 = .ok (.iconst 1, 1) := by decide +kernel
theorem zd_Machine_takeStep_145 : decode zb_Machine_takeStep 145 = .ok (.iadd, 1) := by decide +kernel
theorem zd_Machine_takeStep_146 : decode zb_Machine_takeStep 146 = .ok (.iastore, 1) := by decide +kernel
theorem zd_Machine_takeStep_147 : decode zb_Machine_takeStep 147 = .ok (.aload_n 0, 1) := by decide +kernel
theorem zd_Machine_takeStep_148 : decode zb_Machine_takeStep 148 = .ok (.iload_n 2, 1) := by decide +kernel
theorem zd_Machine_takeStep_149 : decode zb_Machine_takeStep 149 = .ok (.iconst 2, 1) := by decide +kernel
theorem zd_Machine_takeStep_150 : decode zb_Machine_takeStep 150 = .ok (.iadd, 1) := by decide +kernel
theorem zd_Machine_takeStep_151 : decode zb_Machine_takeStep 151 = .ok (.aload_n 0, 1) := by decide +kernel
theorem zd_Machine_takeStep_152 : decode zb_Machine_takeStep 152 = .ok (.getfield 26, 3) := by decide +kernel
theorem zd_Machine_takeStep_155 : decode zb_Machine_takeStep 155 = .ok (.iload 4, 2) := by decide +kernel
theorem zd_Machine_takeStep_157 : decode zb_Machine_takeStep 157 = .ok (.iconst 4, 1) := by decide +kernel
theorem zd_Machine_takeStep_158 : decode zb_Machine_takeStep 158 = .ok (.invokevirtual 98, 3) := by decide +kernel
theorem zd_Machine_takeStep_161 : decode zb_Machine_takeStep 161 = .ok (.invokevirtual 102, 3) := by decide +kernel
theorem zd_Machine_takeStep_164 : decode zb_Machine_takeStep 164 = .ok (.goto 10, 3) := by decide +kernel
theorem zd_Machine_takeStep_167 : decode zb_Machine_takeStep 167 = .ok (.aload_n 0, 1) := by decide +kernel
theorem zd_Machine_takeStep_168 : decode zb_Machine_takeStep 168 = .ok (.iload 5, 2) := by decide +kernel
theorem zd_Machine_takeStep_170 : decode zb_Machine_takeStep 170 = .ok (.iload_n 2, 1) := by decide +kernel
theorem zd_Machine_takeStep_171 : decode zb_Machine_takeStep 171 = .ok (.invokevirtual 73, 3) := by decide +kernel
theorem zd_Machine_takeStep_174 : decode zb_Machine_takeStep 174 = .ok (.return_, 1) := by decide +kernel
theorem zd_Machine_interruptBy_0 : decode zb_Machine_interruptBy 0 = .ok (.aload_n 0, 1) := by decide +kernel
theorem zd_Machine_interruptBy_1 : decode zb_Machine_interruptBy 1 = .ok (.invokevirtual 106, 3) := by decide +kernel
theorem zd_Machine_interruptBy_4 : decode zb_Machine_interruptBy 4 = .ok (.aload_n 0, 1) := by decide +kernel
theorem zd_Machine_interruptBy_5 : decode zb_Machine_interruptBy 5 = .ok (.getfield 30, 3) := by decide +kernel
theorem zd_Machine_interruptBy_8 : decode zb_Machine_interruptBy 8 = .ok (.invokevirtual 109, 3) := by decide +kernel
theorem zd_Machine_interruptBy_11 : decode zb_Machine_interruptBy 11 = .ok (.ifCond .eq 9, 3) := by decide +kernel
theorem zd_Machine_interruptBy_14 : decode zb_Machine_interruptBy 14 = .ok (.aload_n 0, 1) := by decide +kernel
theorem zd_Machine_interruptBy_15 : decode zb_Machine_interruptBy 15 = .ok (.iconst 2, 1) := by decide +kernel
theorem zd_Machine_interruptBy_16 : decode zb_Machine_interruptBy 16 = .ok (.putfield 15, 3) := by decide +kernel
theorem zd_Machine_interruptBy_19 : decode zb_Machine_interruptBy 19 = .ok (.return_, 1) := by decide +kernel
theorem zd_Machine_interruptBy_20 : decode zb_Machine_interruptBy 20 = .ok (.aload_n 0, 1) := by decide +kernel
theorem zd_Machine_interruptBy_21 : decode zb_Machine_interruptBy 21 = .ok (.getfield 42, 3) := by decide +kernel
theorem zd_Machine_interruptBy_24 : decode zb_Machine_interruptBy 24 = .ok (.iconst 3, 1) := by decide +kernel
theorem zd_Machine_interruptBy_25 : decode zb_Machine_interruptBy 25 = .ok (.dup2, 1) := by decide +kernel
theorem zd_Machine_interruptBy_26 : decode zb_Machine_interruptBy 26 = .ok (.iaload, 1) := by decide +kernel
theorem zd_Machine_interruptBy_27 : decode zb_Machine_interruptBy 27 = .ok (.iconst 1, 1) := by decide +kernel
theorem zd_Machine_interruptBy_28 : decode zb_Machine_interruptBy 28 = .ok (.iadd, 1) := by decide +kernel
theorem zd_Machine_interruptBy_29 : decode zb_Machine_interruptBy 29 = .ok (.iastore, 1) := by decide +kernel
theorem zd_Machine_interruptBy_30 : decode zb_Machine_interruptBy 30 = .ok (.aload_n 0, 1) := by decide +kernel
theorem zd_Machine_interruptBy_31 : decode zb_Machine_interruptBy 31 = .ok (.getfield 30, 3) := by decide +kernel
theorem zd_Machine_interruptBy_34 : decode zb_Machine_interruptBy 34 = .ok (.aload_n 0, 1) := by decide +kernel
theorem zd_Machine_interruptBy_35 : decode zb_Machine_interruptBy 35 = .ok (.getfield 18, 3) := by decide +kernel
theorem zd_Machine_interruptBy_38 : decode zb_Machine_interruptBy 38 = .ok (.invokevirtual 61, 3) := by decide +kernel
theorem zd_Machine_interruptBy_41 : decode zb_Machine_interruptBy 41 = .ok (.aload_n 0, 1) := by decide +kernel
theorem zd_Machine_interruptBy_42 : decode zb_Machine_interruptBy 42 = .ok (.getfield 34, 3) := by decide +kernel
theorem zd_Machine_interruptBy_45 : decode zb_Machine_interruptBy 45 = .ok (.iload_n 1, 1) := by decide +kernel
theorem zd_Machine_interruptBy_46 : decode zb_Machine_interruptBy 46 = .ok (.invokevirtual 113, 3) := by decide +kernel
theorem zd_Machine_interruptBy_49 : decode zb_Machine_interruptBy 49 = .ok (.invokevirtual 116, 3) := by decide +kernel
theorem zd_Machine_interruptBy_52 : decode zb_Machine_interruptBy 52 = .ok (.aload_n 0, 1) := by decide +kernel
theorem zd_Machine_interruptBy_53 : decode zb_Machine_interruptBy 53 = .ok (.getfield 18, 3) := by decide +kernel
theorem zd_Machine_interruptBy_56 : decode zb_Machine_interruptBy 56 = .ok (.iconst 0, 1) := by decide +kernel
theorem zd_Machine_interruptBy_57 : decode zb_Machine_interruptBy 57 = .ok (.bipush 64, 2) := by decide +kernel
theorem zd_Machine_interruptBy_59 : decode zb_Machine_interruptBy 59 = .ok (.iconst 4, 1) := by decide +kernel
theorem zd_Machine_interruptBy_60 : decode zb_Machine_interruptBy 60 = .ok (.iload_n 1, 1) := by decide +kernel
theorem zd_Machine_interruptBy_61 : decode zb_Machine_interruptBy 61 = .ok (.imul, 1) := by decide +kernel
theorem zd_Machine_interruptBy_62 : decode zb_Machine_interruptBy 62 = .ok (.iadd, 1) := by decide +kernel
theorem zd_Machine_interruptBy_63 : decode zb_Machine_interruptBy 63 = .ok (.i2l, 1) := by decide +kernel
theorem zd_Machine_interruptBy_64 : decode zb_Machine_interruptBy 64 = .ok (.iconst 0, 1) := by decide +kernel
theorem zd_Machine_interruptBy_65 : decode zb_Machine_interruptBy 65 = .ok (.invokevirtual 119, 3) := by decide +kernel
theorem zd_Machine_interruptBy_68 : decode zb_Machine_interruptBy 68 = .ok (.return_, 1) := by decide +kernel
theorem zd_Machine_settlePlace_0 : decode zb_Machine_settlePlace 0 = .ok (.aload_n 0, 1) := by decide +kernel
theorem zd_Machine_settlePlace_1 : decode zb_Machine_settlePlace 1 = .ok (.getfield 9, 3) := by decide +kernel
theorem zd_Machine_settlePlace_4 : decode zb_Machine_settlePlace 4 = .ok (.istore_n 3, 1) := by decide +kernel
theorem zd_Machine_settlePlace_5 : decode zb_Machine_settlePlace 5 = .ok (.aload_n 0, 1) := by decide +kernel
theorem zd_Machine_settlePlace_6 : decode zb_Machine_settlePlace 6 = .ok (.invokevirtual 106, 3) := by decide +kernel
theorem zd_Machine_settlePlace_9 : decode zb_Machine_settlePlace 9 = .ok (.aload_n 0, 1) := by decide +kernel
theorem zd_Machine_settlePlace_10 : decode zb_Machine_settlePlace 10 = .ok (.getfield 38, 3) := by decide +kernel
theorem zd_Machine_settlePlace_13 : decode zb_Machine_settlePlace 13 = .ok (.getfield 123, 3) := by decide +kernel
theorem zd_Machine_settlePlace_16 : decode zb_Machine_settlePlace 16 = .ok (.ifCond .ne 19, 3) := by decide +kernel
theorem zd_Machine_settlePlace_19 : decode zb_Machine_settlePlace 19 = .ok (.iload_n 3, 1) := by decide +kernel
theorem zd_Machine_settlePlace_20 : decode zb_Machine_settlePlace 20 = .ok (.iconst (-1), 1) := by decide +kernel
theorem zd_Machine_settlePlace_21 : decode zb_Machine_settlePlace 21 = .ok (.if_icmp .eq 37, 3) := by decide +kernel
theorem zd_Machine_settlePlace_24 : decode zb_Machine_settlePlace 24 = .ok (.aload_n 0, 1) := by decide +kernel
theorem zd_Machine_settlePlace_25 : decode zb_Machine_settlePlace 25 = .ok (.getfield 18, 3) := by decide +kernel
theorem zd_Machine_settlePlace_28 : decode zb_Machine_settlePlace 28 = .ok (.iload_n 3, 1) := by decide +kernel
theorem zd_Machine_settlePlace_29 : decode zb_Machine_settlePlace 29 = .ok (.invokevirtual 85, 3) := by decide +kernel
theorem zd_Machine_settlePlace_32 : decode zb_Machine_settlePlace 32 = .ok (.goto 26, 3) := by decide +kernel
theorem zd_Machine_settlePlace_35 : decode zb_Machine_settlePlace 35 = .ok (.iload_n 2, 1) := by decide +kernel
theorem zd_Machine_settlePlace_36 : decode zb_Machine_settlePlace 36 = .ok (.ifCond .eq 22, 3) := by decide +kernel
theorem zd_Machine_settlePlace_39 : decode zb_Machine_settlePlace 39 = .ok (.aload_n 0, 1) := by decide +kernel
theorem zd_Machine_settlePlace_40 : decode zb_Machine_settlePlace 40 = .ok (.aload_n 0, 1) := by decide +kernel
theorem zd_Machine_settlePlace_41 : decode zb_Machine_settlePlace 41 = .ok (.getfield 18, 3) := by decide +kernel
theorem zd_Machine_settlePlace_44 : decode zb_Machine_settlePlace 44 = .ok (.invokevirtual 61, 3) := by decide +kernel
theorem zd_Machine_settlePlace_47 : decode zb_Machine_settlePlace 47 = .ok (.putfield 9, 3) := by decide +kernel
theorem zd_Machine_settlePlace_50 : decode zb_Machine_settlePlace 50 = .ok (.aload_n 0, 1) := by decide +kernel
theorem zd_Machine_settlePlace_51 : decode zb_Machine_settlePlace 51 = .ok (.getfield 18, 3) := by decide +kernel
theorem zd_Machine_settlePlace_54 : decode zb_Machine_settlePlace 54 = .ok (.iload_n 1, 1) := by decide +kernel
theorem zd_Machine_settlePlace_55 : decode zb_Machine_settlePlace 55 = .ok (.invokevirtual 85, 3) := by decide +kernel
theorem zd_Machine_settlePlace_58 : decode zb_Machine_settlePlace 58 = .ok (.return_, 1) := by decide +kernel
theorem zd_Machine_failWith_0 : decode zb_Machine_failWith 0 = .ok (.aload_n 0, 1) := by decide +kernel
theorem zd_Machine_failWith_1 : decode zb_Machine_failWith 1 = .ok (.getfield 42, 3) := by decide +kernel
theorem zd_Machine_failWith_4 : decode zb_Machine_failWith 4 = .ok (.iconst 2, 1) := by decide +kernel
theorem zd_Machine_failWith_5 : decode zb_Machine_failWith 5 = .ok (.dup2, 1) := by decide +kernel
theorem zd_Machine_failWith_6 : decode zb_Machine_failWith 6 = .ok (.iaload, 1) := by decide +kernel
theorem zd_Machine_failWith_7 : decode zb_Machine_failWith 7 = .ok (.iconst 1, 1) := by decide +kernel
theorem zd_Machine_failWith_8 : decode zb_Machine_failWith 8 = .ok (.iadd, 1) := by decide +kernel
theorem zd_Machine_failWith_9 : decode zb_Machine_failWith 9 = .ok (.iastore, 1) := by decide +kernel
theorem zd_Machine_failWith_10 : decode zb_Machine_failWith 10 = .ok (.aload_n 0, 1) := by decide +kernel
theorem zd_Machine_failWith_11 : decode zb_Machine_failWith 11 = .ok (.iload_n 1, 1) := by decide +kernel
theorem zd_Machine_failWith_12 : decode zb_Machine_failWith 12 = .ok (.putfield 126, 3) := by decide +kernel
theorem zd_Machine_failWith_15 : decode zb_Machine_failWith 15 = .ok (.aload_n 0, 1) := by decide +kernel
theorem zd_Machine_failWith_16 : decode zb_Machine_failWith 16 = .ok (.iload_n 2, 1) := by decide +kernel
theorem zd_Machine_failWith_17 : decode zb_Machine_failWith 17 = .ok (.putfield 129, 3) := by decide +kernel
theorem zd_Machine_failWith_20 : decode zb_Machine_failWith 20 = .ok (.aload_n 0, 1) := by decide +kernel
theorem zd_Machine_failWith_21 : decode zb_Machine_failWith 21 = .ok (.invokevirtual 106, 3) := by decide +kernel
theorem zd_Machine_failWith_24 : decode zb_Machine_failWith 24 = .ok (.aload_n 0, 1) := by decide +kernel
theorem zd_Machine_failWith_25 : decode zb_Machine_failWith 25 = .ok (.getfield 30, 3) := by decide +kernel
theorem zd_Machine_failWith_28 : decode zb_Machine_failWith 28 = .ok (.invokevirtual 109, 3) := by decide +kernel
theorem zd_Machine_failWith_31 : decode zb_Machine_failWith 31 = .ok (.ifCond .eq 17, 3) := by decide +kernel
theorem zd_Machine_failWith_34 : decode zb_Machine_failWith 34 = .ok (.aload_n 0, 1) := by decide +kernel
theorem zd_Machine_failWith_35 : decode zb_Machine_failWith 35 = .ok (.iconst 2, 1) := by decide +kernel
theorem zd_Machine_failWith_36 : decode zb_Machine_failWith 36 = .ok (.putfield 15, 3) := by decide +kernel
theorem zd_Machine_failWith_39 : decode zb_Machine_failWith 39 = .ok (.aload_n 0, 1) := by decide +kernel
theorem zd_Machine_failWith_40 : decode zb_Machine_failWith 40 = .ok (.getfield 18, 3) := by decide +kernel
theorem zd_Machine_failWith_43 : decode zb_Machine_failWith 43 = .ok (.iload_n 2, 1) := by decide +kernel
theorem zd_Machine_failWith_44 : decode zb_Machine_failWith 44 = .ok (.invokevirtual 85, 3) := by decide +kernel
theorem zd_Machine_failWith_47 : decode zb_Machine_failWith 47 = .ok (.return_, 1) := by decide +kernel
theorem zd_Machine_failWith_48 : decode zb_Machine_failWith 48 = .ok (.aload_n 0, 1) := by decide +kernel
theorem zd_Machine_failWith_49 : decode zb_Machine_failWith 49 = .ok (.getfield 30, 3) := by decide +kernel
theorem zd_Machine_failWith_52 : decode zb_Machine_failWith 52 = .ok (.iload_n 2, 1) := by decide +kernel
theorem zd_Machine_failWith_53 : decode zb_Machine_failWith 53 = .ok (.bipush 15, 2) := by decide +kernel
theorem zd_Machine_failWith_55 : decode zb_Machine_failWith 55 = .ok (.invokevirtual 116, 3) := by decide +kernel
theorem zd_Machine_failWith_58 : decode zb_Machine_failWith 58 = .ok (.aload_n 0, 1) := by decide +kernel
theorem zd_Machine_failWith_59 : decode zb_Machine_failWith 59 = .ok (.getfield 18, 3) := by decide +kernel
theorem zd_Machine_failWith_62 : decode zb_Machine_failWith 62 = .ok (.iconst 0, 1) := by decide +kernel
theorem zd_Machine_failWith_63 : decode zb_Machine_failWith 63 = .ok (.iconst 4, 1) := by decide +kernel
theorem zd_Machine_failWith_64 : decode zb_Machine_failWith 64 = .ok (.iload_n 1, 1) := by decide +kernel
theorem zd_Machine_failWith_65 : decode zb_Machine_failWith 65 = .ok (.imul, 1) := by decide +kernel
theorem zd_Machine_failWith_66 : decode zb_Machine_failWith 66 = .ok (.i2l, 1) := by decide +kernel
theorem zd_Machine_failWith_67 : decode zb_Machine_failWith 67 = .ok (.iconst 0, 1) := by decide +kernel
theorem zd_Machine_failWith_68 : decode zb_Machine_failWith 68 = .ok (.invokevirtual 119, 3) := by decide +kernel
theorem zd_Machine_failWith_71 : decode zb_Machine_failWith 71 = .ok (.return_, 1) := by decide +kernel
theorem zd_PS_init_0 : decode zb_PS_init 0 = .ok (.aload_n 0, 1) := by decide +kernel
theorem zd_PS_init_1 : decode zb_PS_init 1 = .ok (.invokespecial 1, 3) := by decide +kernel
theorem zd_PS_init_4 : decode zb_PS_init 4 = .ok (.aload_n 0, 1) := by decide +kernel
theorem zd_PS_init_5 : decode zb_PS_init 5 = .ok (.new 7, 3) := by decide +kernel
theorem zd_PS_init_8 : decode zb_PS_init 8 = .ok (.dup, 1) := by decide +kernel
theorem zd_PS_init_9 : decode zb_PS_init 9 = .ok (.invokespecial 9, 3) := by decide +kernel
theorem zd_PS_init_12 : decode zb_PS_init 12 = .ok (.putfield 10, 3) := by decide +kernel
theorem zd_PS_init_15 : decode zb_PS_init 15 = .ok (.aload_n 0, 1) := by decide +kernel
theorem zd_PS_init_16 : decode zb_PS_init 16 = .ok (.new 16, 3) := by decide +kernel
theorem zd_PS_init_19 : decode zb_PS_init 19 = .ok (.dup, 1) := by decide +kernel
theorem zd_PS_init_20 : decode zb_PS_init 20 = .ok (.invokespecial 18, 3) := by decide +kernel
theorem zd_PS_init_23 : decode zb_PS_init 23 = .ok (.putfield 19, 3) := by decide +kernel
theorem zd_PS_init_26 : decode zb_PS_init 26 = .ok (.aload_n 0, 1) := by decide +kernel
theorem zd_PS_init_27 : decode zb_PS_init 27 = .ok (.new 23, 3) := by decide +kernel
theorem zd_PS_init_30 : decode zb_PS_init 30 = .ok (.dup, 1) := by decide +kernel
theorem zd_PS_init_31 : decode zb_PS_init 31 = .ok (.aload_n 0, 1) := by decide +kernel
theorem zd_PS_init_32 : decode zb_PS_init 32 = .ok (.getfield 10, 3) := by decide +kernel
theorem zd_PS_init_35 : decode zb_PS_init 35 = .ok (.invokespecial 25, 3) := by decide +kernel
theorem zd_PS_init_38 : decode zb_PS_init 38 = .ok (.putfield 28, 3) := by decide +kernel
theorem zd_PS_init_41 : decode zb_PS_init 41 = .ok (.aload_n 0, 1) := by decide +kernel
theorem zd_PS_init_42 : decode zb_PS_init 42 = .ok (.new 32, 3) := by decide +kernel
theorem zd_PS_init_45 : decode zb_PS_init 45 = .ok (.dup, 1) := by decide +kernel
theorem zd_PS_init_46 : decode zb_PS_init 46 = .ok (.invokespecial 34, 3) := by decide +kernel
theorem zd_PS_init_49 : decode zb_PS_init 49 = .ok (.putfield 35, 3) := by decide +kernel
theorem zd_PS_init_52 : decode zb_PS_init 52 = .ok (.aload_n 0, 1) := by decide +kernel
theorem zd_PS_init_53 : decode zb_PS_init 53 = .ok (.new 39, 3) := by decide +kernel
theorem zd_PS_init_56 : decode zb_PS_init 56 = .ok (.dup, 1) := by decide +kernel
theorem zd_PS_init_57 : decode zb_PS_init 57 = .ok (.invokespecial 41, 3) := by decide +kernel
theorem zd_PS_init_60 : decode zb_PS_init 60 = .ok (.putfield 42, 3) := by decide +kernel
theorem zd_PS_init_63 : decode zb_PS_init 63 = .ok (.aload_n 0, 1) := by decide +kernel
theorem zd_PS_init_64 : decode zb_PS_init 64 = .ok (.new 46, 3) := by decide +kernel
theorem zd_PS_init_67 : decode zb_PS_init 67 = .ok (.dup, 1) := by decide +kernel
theorem zd_PS_init_68 : decode zb_PS_init 68 = .ok (.invokespecial 48, 3) := by decide +kernel
theorem zd_PS_init_71 : decode zb_PS_init 71 = .ok (.putfield 49, 3) := by decide +kernel
theorem zd_PS_init_74 : decode zb_PS_init 74 = .ok (.aload_n 0, 1) := by decide +kernel
theorem zd_PS_init_75 : decode zb_PS_init 75 = .ok (.bipush 9, 2) := by decide +kernel
theorem zd_PS_init_77 : decode zb_PS_init 77 = .ok (.newarray .int, 2) := by decide +kernel
theorem zd_PS_init_79 : decode zb_PS_init 79 = .ok (.putfield 53, 3) := by decide +kernel
theorem zd_PS_init_82 : decode zb_PS_init 82 = .ok (.new 57, 3) := by decide +kernel
theorem zd_PS_init_85 : decode zb_PS_init 85 = .ok (.dup, 1) := by decide +kernel
theorem zd_PS_init_86 : decode zb_PS_init 86 = .ok (.aload_n 0, 1) := by decide +kernel
theorem zd_PS_init_87 : decode zb_PS_init 87 = .ok (.getfield 10, 3) := by decide +kernel
theorem zd_PS_init_90 : decode zb_PS_init 90 = .ok (.aload_n 0, 1) := by decide +kernel
theorem zd_PS_init_91 : decode zb_PS_init 91 = .ok (.getfield 19, 3) := by decide +kernel
theorem zd_PS_init_94 : decode zb_PS_init 94 = .ok (.aload_n 0, 1) := by decide +kernel
theorem zd_PS_init_95 : decode zb_PS_init 95 = .ok (.getfield 28, 3) := by decide +kernel
theorem zd_PS_init_98 : decode zb_PS_init 98 = .ok (.aload_n 0, 1) := by decide +kernel
theorem zd_PS_init_99 : decode zb_PS_init 99 = .ok (.getfield 35, 3) := by decide +kernel
theorem zd_PS_init_102 : decode zb_PS_init 102 = .ok (.aload_n 0, 1) := by decide +kernel
theorem zd_PS_init_103 : decode zb_PS_init 103 = .ok (.getfield 42, 3) := by decide +kernel
theorem zd_PS_init_106 : decode zb_PS_init 106 = .ok (.aload_n 0, 1) := by decide +kernel
theorem zd_PS_init_107 : decode zb_PS_init 107 = .ok (.getfield 53, 3) := by decide +kernel
theorem zd_PS_init_110 : decode zb_PS_init 110 = .ok (.invokespecial 59, 3) := by decide +kernel
theorem zd_PS_init_113 : decode zb_PS_init 113 = .ok (.astore_n 1, 1) := by decide +kernel
theorem zd_PS_init_114 : decode zb_PS_init 114 = .ok (.aload_n 0, 1) := by decide +kernel
theorem zd_PS_init_115 : decode zb_PS_init 115 = .ok (.new 62, 3) := by decide +kernel
theorem zd_PS_init_118 : decode zb_PS_init 118 = .ok (.dup, 1) := by decide +kernel
theorem zd_PS_init_119 : decode zb_PS_init 119 = .ok (.aload_n 0, 1) := by decide +kernel
theorem zd_PS_init_120 : decode zb_PS_init 120 = .ok (.getfield 10, 3) := by decide +kernel
theorem zd_PS_init_123 : decode zb_PS_init 123 = .ok (.aload_n 0, 1) := by decide +kernel
theorem zd_PS_init_124 : decode zb_PS_init 124 = .ok (.getfield 19, 3) := by decide +kernel
theorem zd_PS_init_127 : decode zb_PS_init 127 = .ok (.aload_n 0, 1) := by decide +kernel
theorem zd_PS_init_128 : decode zb_PS_init 128 = .ok (.getfield 35, 3) := by decide +kernel
theorem zd_PS_init_131 : decode zb_PS_init 131 = .ok (.aload_n 0, 1) := by decide +kernel
theorem zd_PS_init_132 : decode zb_PS_init 132 = .ok (.getfield 42, 3) := by decide +kernel
theorem zd_PS_init_135 : decode zb_PS_init 135 = .ok (.aload_n 0, 1) := by decide +kernel
theorem zd_PS_init_136 : decode zb_PS_init 136 = .ok (.getfield 49, 3) := by decide +kernel
theorem zd_PS_init_139 : decode zb_PS_init 139 = .ok (.aload_n 1, 1) := by decide +kernel
theorem zd_PS_init_140 : decode zb_PS_init 140 = .ok (.aload_n 0, 1) := by decide +kernel
theorem zd_PS_init_141 : decode zb_PS_init 141 = .ok (.getfield 53, 3) := by decide +kernel
theorem zd_PS_init_144 : decode zb_PS_init 144 = .ok (.invokespecial 64, 3) := by decide +kernel
theorem zd_PS_init_147 : decode zb_PS_init 147 = .ok (.putfield 67, 3) := by decide +kernel
theorem zd_PS_init_150 : decode zb_PS_init 150 = .ok (.return_, 1) := by decide +kernel
theorem zd_PS_register_0 : decode zb_PS_register 0 = .ok (.iload_n 1, 1) := by decide +kernel
theorem zd_PS_register_1 : decode zb_PS_register 1 = .ok (.iconst 1, 1) := by decide +kernel
theorem zd_PS_register_2 : decode zb_PS_register 2 = .ok (.if_icmp .lt 9, 3) := by decide +kernel
theorem zd_PS_register_5 : decode zb_PS_register 5 = .ok (.iload_n 1, 1) := by decide +kernel
theorem zd_PS_register_6 : decode zb_PS_register 6 = .ok (.bipush 64, 2) := by decide +kernel
theorem zd_PS_register_8 : decode zb_PS_register 8 = .ok (.if_icmp .le 13, 3) := by decide +kernel
theorem zd_PS_register_11 : decode zb_PS_register 11 = .ok (.new 71, 3) := by decide +kernel
theorem zd_PS_register_14 : decode zb_PS_register 14 = .ok (.dup, 1) := by decide +kernel
theorem zd_PS_register_15 : decode zb_PS_register 15 = .ok (.ldc 73, 2) := by decide +kernel
theorem zd_PS_register_17 : decode zb_PS_register 17 = .ok (.invokespecial 75, 3) := by decide +kernel
theorem zd_PS_register_20 : decode zb_PS_register 20 = .ok (.athrow, 1) := by decide +kernel
theorem zd_PS_register_21 : decode zb_PS_register 21 = .ok (.aload_n 0, 1) := by decide +kernel
theorem zd_PS_register_22 : decode zb_PS_register 22 = .ok (.getfield 10, 3) := by decide +kernel
theorem zd_PS_register_25 : decode zb_PS_register 25 = .ok (.getfield 78, 3) := by decide +kernel
theorem zd_PS_register_28 : decode zb_PS_register 28 = .ok (.bipush 24, 2) := by decide +kernel
theorem zd_PS_register_30 : decode zb_PS_register 30 = .ok (.if_icmp .lt 13, 3) := by decide +kernel
theorem zd_PS_register_33 : decode zb_PS_register 33 = .ok (.new 82, 3) := by decide +kernel
theorem zd_PS_register_36 : decode zb_PS_register 36 = .ok (.dup, 1) := by decide +kernel
theorem zd_PS_register_37 : decode zb_PS_register 37 = .ok (.ldc 84, 2) := by decide +kernel
theorem zd_PS_register_39 : decode zb_PS_register 39 = .ok (.invokespecial 86, 3) := by decide +kernel
theorem zd_PS_register_42 : decode zb_PS_register 42 = .ok (.athrow, 1) := by decide +kernel
theorem zd_PS_register_43 : decode zb_PS_register 43 = .ok (.aload_n 0, 1) := by decide +kernel
theorem zd_PS_register_44 : decode zb_PS_register 44 = .ok (.getfield 10, 3) := by decide +kernel
theorem zd_PS_register_47 : decode zb_PS_register 47 = .ok (.iload_n 1, 1) := by decide +kernel
theorem zd_PS_register_48 : decode zb_PS_register 48 = .ok (.invokevirtual 87, 3) := by decide +kernel
theorem zd_PS_register_51 : decode zb_PS_register 51 = .ok (.ireturn, 1) := by decide +kernel
theorem zd_PS_constant_0 : decode zb_PS_constant 0 = .ok (.aload_n 0, 1) := by decide +kernel
theorem zd_PS_constant_1 : decode zb_PS_constant 1 = .ok (.getfield 28, 3) := by decide +kernel
theorem zd_PS_constant_4 : decode zb_PS_constant 4 = .ok (.getfield 91, 3) := by decide +kernel
theorem zd_PS_constant_7 : decode zb_PS_constant 7 = .ok (.bipush 16, 2) := by decide +kernel
theorem zd_PS_constant_9 : decode zb_PS_constant 9 = .ok (.if_icmp .lt 13, 3) := by decide +kernel
theorem zd_PS_constant_12 : decode zb_PS_constant 12 = .ok (.new 82, 3) := by decide +kernel
theorem zd_PS_constant_15 : decode zb_PS_constant 15 = .ok (.dup, 1) := by decide +kernel
theorem zd_PS_constant_16 : decode zb_PS_constant 16 = .ok (.ldc 94, 2) := by decide +kernel
theorem zd_PS_constant_18 : decode zb_PS_constant 18 = .ok (.invokespecial 86, 3) := by decide +kernel
theorem zd_PS_constant_21 : decode zb_PS_constant 21 = .ok (.athrow, 1) := by decide +kernel
theorem zd_PS_constant_22 : decode zb_PS_constant 22 = .ok (.aload_n 0, 1) := by decide +kernel
theorem zd_PS_constant_23 : decode zb_PS_constant 23 = .ok (.getfield 28, 3) := by decide +kernel
theorem zd_PS_constant_26 : decode zb_PS_constant 26 = .ok (.lload_n 1, 1) := by decide +kernel
theorem zd_PS_constant_27 : decode zb_PS_constant 27 = .ok (.invokevirtual 96, 3) := by decide +kernel
theorem zd_PS_constant_30 : decode zb_PS_constant 30 = .ok (.ireturn, 1) := by decide +kernel
theorem zd_PS_field_0 : decode zb_PS_field 0 = .ok (.iload_n 1, 1) := by decide +kernel
theorem zd_PS_field_1 : decode zb_PS_field 1 = .ok (.ifCond .lt 14, 3) := by decide +kernel
theorem zd_PS_field_4 : decode zb_PS_field 4 = .ok (.iload_n 2, 1) := by decide +kernel
theorem zd_PS_field_5 : decode zb_PS_field 5 = .ok (.bipush 16, 2) := by decide +kernel
theorem zd_PS_field_7 : decode zb_PS_field 7 = .ok (.if_icmp .ge 8, 3) := by decide +kernel
theorem zd_PS_field_10 : decode zb_PS_field 10 = .ok (.iload_n 1, 1) := by decide +kernel
theorem zd_PS_field_11 : decode zb_PS_field 11 = .ok (.iload_n 2, 1) := by decide +kernel
theorem zd_PS_field_12 : decode zb_PS_field 12 = .ok (.if_icmp .le 13, 3) := by decide +kernel
theorem zd_PS_field_15 : decode zb_PS_field 15 = .ok (.new 71, 3) := by decide +kernel
theorem zd_PS_field_18 : decode zb_PS_field 18 = .ok (.dup, 1) := by decide +kernel
theorem zd_PS_field_19 : decode zb_PS_field 19 = .ok (.ldc 100, 2) := by decide +kernel
theorem zd_PS_field_21 : decode zb_PS_field 21 = .ok (.invokespecial 75, 3) := by decide +kernel
theorem zd_PS_field_24 : decode zb_PS_field 24 = .ok (.athrow, 1) := by decide +kernel
theorem zd_PS_field_25 : decode zb_PS_field 25 = .ok (.aload_n 0, 1) := by decide +kernel
theorem zd_PS_field_26 : decode zb_PS_field 26 = .ok (.getfield 28, 3) := by decide +kernel
theorem zd_PS_field_29 : decode zb_PS_field 29 = .ok (.getfield 102, 3) := by decide +kernel
theorem zd_PS_field_32 : decode zb_PS_field 32 = .ok (.bipush 16, 2) := by decide +kernel
theorem zd_PS_field_34 : decode zb_PS_field 34 = .ok (.if_icmp .lt 13, 3) := by decide +kernel
theorem zd_PS_field_37 : decode zb_PS_field 37 = .ok (.new 82, 3) := by decide +kernel
theorem zd_PS_field_40 : decode zb_PS_field 40 = .ok (.dup, 1) := by decide +kernel
theorem zd_PS_field_41 : decode zb_PS_field 41 = .ok (.ldc 105, 2) := by decide +kernel
theorem zd_PS_field_43 : decode zb_PS_field 43 = .ok (.invokespecial 86, 3) := by decide +kernel
theorem zd_PS_field_46 : decode zb_PS_field 46 = .ok (.athrow, 1) := by decide +kernel
theorem zd_PS_field_47 : decode zb_PS_field 47 = .ok (.aload_n 0, 1) := by decide +kernel
theorem zd_PS_field_48 : decode zb_PS_field 48 = .ok (.getfield 28, 3) := by decide +kernel
theorem zd_PS_field_51 : decode zb_PS_field 51 = .ok (.iload_n 1, 1) := by decide +kernel
theorem zd_PS_field_52 : decode zb_PS_field 52 = .ok (.iload_n 2, 1) := by decide +kernel
theorem zd_PS_field_53 : decode zb_PS_field 53 = .ok (.iload_n 3, 1) := by decide +kernel
theorem zd_PS_field_54 : decode zb_PS_field 54 = .ok (.invokevirtual 107, 3) := by decide +kernel
theorem zd_PS_field_57 : decode zb_PS_field 57 = .ok (.ireturn, 1) := by decide +kernel
theorem zd_PS_transfer_0 : decode zb_PS_transfer 0 = .ok (.iload_n 1, 1) := by decide +kernel
theorem zd_PS_transfer_1 : decode zb_PS_transfer 1 = .ok (.ifCond .lt 9, 3) := by decide +kernel
theorem zd_PS_transfer_4 : decode zb_PS_transfer 4 = .ok (.iload_n 1, 1) := by decide +kernel
theorem zd_PS_transfer_5 : decode zb_PS_transfer 5 = .ok (.bipush 22, 2) := by decide +kernel
theorem zd_PS_transfer_7 : decode zb_PS_transfer 7 = .ok (.if_icmp .le 13, 3) := by decide +kernel
theorem zd_PS_transfer_10 : decode zb_PS_transfer 10 = .ok (.new 71, 3) := by decide +kernel
theorem zd_PS_transfer_13 : decode zb_PS_transfer 13 = .ok (.dup, 1) := by decide +kernel
theorem zd_PS_transfer_14 : decode zb_PS_transfer 14 = .ok (.ldc 111, 2) := by decide +kernel
theorem zd_PS_transfer_16 : decode zb_PS_transfer 16 = .ok (.invokespecial 75, 3) := by decide +kernel
theorem zd_PS_transfer_19 : decode zb_PS_transfer 19 = .ok (.athrow, 1) := by decide +kernel
theorem zd_PS_transfer_20 : decode zb_PS_transfer 20 = .ok (.aload_n 0, 1) := by decide +kernel
theorem zd_PS_transfer_21 : decode zb_PS_transfer 21 = .ok (.getfield 28, 3) := by decide +kernel
theorem zd_PS_transfer_24 : decode zb_PS_transfer 24 = .ok (.iload_n 2, 1) := by decide +kernel
theorem zd_PS_transfer_25 : decode zb_PS_transfer 25 = .ok (.invokevirtual 113, 3) := by decide +kernel
theorem zd_PS_transfer_28 : decode zb_PS_transfer 28 = .ok (.ifCond .eq 14, 3) := by decide +kernel
theorem zd_PS_transfer_31 : decode zb_PS_transfer 31 = .ok (.aload_n 0, 1) := by decide +kernel
theorem zd_PS_transfer_32 : decode zb_PS_transfer 32 = .ok (.getfield 28, 3) := by decide +kernel
theorem zd_PS_transfer_35 : decode zb_PS_transfer 35 = .ok (.iload_n 3, 1) := by decide +kernel
theorem zd_PS_transfer_36 : decode zb_PS_transfer 36 = .ok (.invokevirtual 113, 3) := by decide +kernel
theorem zd_PS_transfer_39 : decode zb_PS_transfer 39 = .ok (.ifCond .ne 13, 3) := by decide +kernel
theorem zd_PS_transfer_42 : decode zb_PS_transfer 42 = .ok (.new 71, 3) := by decide +kernel
theorem zd_PS_transfer_45 : decode zb_PS_transfer 45 = .ok (.dup, 1) := by decide +kernel
theorem zd_PS_transfer_46 : decode zb_PS_transfer 46 = .ok (.ldc 117, 2) := by decide +kernel
theorem zd_PS_transfer_48 : decode zb_PS_transfer 48 = .ok (.invokespecial 75, 3) := by decide +kernel
theorem zd_PS_transfer_51 : decode zb_PS_transfer 51 = .ok (.athrow, 1) := by decide +kernel
theorem zd_PS_transfer_52 : decode zb_PS_transfer 52 = .ok (.aload_n 0, 1) := by decide +kernel
theorem zd_PS_transfer_53 : decode zb_PS_transfer 53 = .ok (.getfield 10, 3) := by decide +kernel
theorem zd_PS_transfer_56 : decode zb_PS_transfer 56 = .ok (.iload 4, 2) := by decide +kernel
theorem zd_PS_transfer_58 : decode zb_PS_transfer 58 = .ok (.invokevirtual 119, 3) := by decide +kernel
theorem zd_PS_transfer_61 : decode zb_PS_transfer 61 = .ok (.ifCond .ne 13, 3) := by decide +kernel
theorem zd_PS_transfer_64 : decode zb_PS_transfer 64 = .ok (.new 71, 3) := by decide +kernel
theorem zd_PS_transfer_67 : decode zb_PS_transfer 67 = .ok (.dup, 1) := by decide +kernel
theorem zd_PS_transfer_68 : decode zb_PS_transfer 68 = .ok (.ldc 120, 2) := by decide +kernel
theorem zd_PS_transfer_70 : decode zb_PS_transfer 70 = .ok (.invokespecial 75, 3) := by decide +kernel
theorem zd_PS_transfer_73 : decode zb_PS_transfer 73 = .ok (.athrow, 1) := by decide +kernel
theorem zd_PS_transfer_74 : decode zb_PS_transfer 74 = .ok (.aload_n 0, 1) := by decide +kernel
theorem zd_PS_transfer_75 : decode zb_PS_transfer 75 = .ok (.getfield 35, 3) := by decide +kernel
theorem zd_PS_transfer_78 : decode zb_PS_transfer 78 = .ok (.getfield 122, 3) := by decide +kernel
theorem zd_PS_transfer_81 : decode zb_PS_transfer 81 = .ok (.sipush 200, 3) := by decide +kernel
theorem zd_PS_transfer_84 : decode zb_PS_transfer 84 = .ok (.if_icmp .lt 13, 3) := by decide +kernel
theorem zd_PS_transfer_87 : decode zb_PS_transfer 87 = .ok (.new 82, 3) := by decide +kernel
theorem zd_PS_transfer_90 : decode zb_PS_transfer 90 = .ok (.dup, 1) := by decide +kernel
theorem zd_PS_transfer_91 : decode zb_PS_transfer 91 = .ok (.ldc 125, 2) := by decide +kernel
theorem zd_PS_transfer_93 : decode zb_PS_transfer 93 = .ok (.invokespecial 86, 3) := by decide +kernel
theorem zd_PS_transfer_96 : decode zb_PS_transfer 96 = .ok (.athrow, 1) := by decide +kernel
theorem zd_PS_transfer_97 : decode zb_PS_transfer 97 = .ok (.aload_n 0, 1) := by decide +kernel
theorem zd_PS_transfer_98 : decode zb_PS_transfer 98 = .ok (.getfield 35, 3) := by decide +kernel
theorem zd_PS_transfer_101 : decode zb_PS_transfer 101 = .ok (.iload_n 1, 1) := by decide +kernel
theorem zd_PS_transfer_102 : decode zb_PS_transfer 102 = .ok (.iload_n 2, 1) := by decide +kernel
theorem zd_PS_transfer_103 : decode zb_PS_transfer 103 = .ok (.iload_n 3, 1) := by decide +kernel
theorem zd_PS_transfer_104 : decode zb_PS_transfer 104 = .ok (.iload 4, 2) := by decide +kernel
theorem zd_PS_transfer_106 : decode zb_PS_transfer 106 = .ok (.invokevirtual 127, 3) := by decide +kernel
theorem zd_PS_transfer_109 : decode zb_PS_transfer 109 = .ok (.ireturn, 1) := by decide +kernel
theorem zd_PS_instruction_0 : decode zb_PS_instruction 0 = .ok (.iload_n 1, 1) := by decide +kernel
theorem zd_PS_instruction_1 : decode zb_PS_instruction 1 = .ok (.ifCond .lt 19, 3) := by decide +kernel
theorem zd_PS_instruction_4 : decode zb_PS_instruction 4 = .ok (.iload_n 1, 1) := by decide +kernel
theorem zd_PS_instruction_5 : decode zb_PS_instruction 5 = .ok (.ldc 131, 2) := by decide +kernel
theorem zd_PS_instruction_7 : decode zb_PS_instruction 7 = .ok (.if_icmp .gt 13, 3) := by decide +kernel
theorem zd_PS_instruction_10 : decode zb_PS_instruction 10 = .ok (.iload_n 2, 1) := by decide +kernel
theorem zd_PS_instruction_11 : decode zb_PS_instruction 11 = .ok (.ifCond .lt 9, 3) := by decide +kernel
theorem zd_PS_instruction_14 : decode zb_PS_instruction 14 = .ok (.iload_n 2, 1) := by decide +kernel
theorem zd_PS_instruction_15 : decode zb_PS_instruction 15 = .ok (.ldc 131, 2) := by decide +kernel
theorem zd_PS_instruction_17 : decode zb_PS_instruction 17 = .ok (.if_icmp .le 13, 3) := by decide +kernel
theorem zd_PS_instruction_20 : decode zb_PS_instruction 20 = .ok (.new 71, 3) := by decide +kernel
theorem zd_PS_instruction_23 : decode zb_PS_instruction 23 = .ok (.dup, 1) := by decide +kernel
theorem zd_PS_instruction_24 : decode zb_PS_instruction 24 = .ok (.ldc 132, 2) := by decide +kernel
theorem zd_PS_instruction_26 : decode zb_PS_instruction 26 = .ok (.invokespecial 75, 3) := by decide +kernel
theorem zd_PS_instruction_29 : decode zb_PS_instruction 29 = .ok (.athrow, 1) := by decide +kernel
theorem zd_PS_instruction_30 : decode zb_PS_instruction 30 = .ok (.iload_n 2, 1) := by decide +kernel
theorem zd_PS_instruction_31 : decode zb_PS_instruction 31 = .ok (.iload_n 1, 1) := by decide +kernel
theorem zd_PS_instruction_32 : decode zb_PS_instruction 32 = .ok (.iconst (-1), 1) := by decide +kernel
theorem zd_PS_instruction_33 : decode zb_PS_instruction 33 = .ok (.ixor, 1) := by decide +kernel
theorem zd_PS_instruction_34 : decode zb_PS_instruction 34 = .ok (.iand, 1) := by decide +kernel
theorem zd_PS_instruction_35 : decode zb_PS_instruction 35 = .ok (.ifCond .eq 13, 3) := by decide +kernel
theorem zd_PS_instruction_38 : decode zb_PS_instruction 38 = .ok (.new 71, 3) := by decide +kernel
theorem zd_PS_instruction_41 : decode zb_PS_instruction 41 = .ok (.dup, 1) := by decide +kernel
theorem zd_PS_instruction_42 : decode zb_PS_instruction 42 = .ok (.ldc 134, 2) := by decide +kernel
theorem zd_PS_instruction_44 : decode zb_PS_instruction 44 = .ok (.invokespecial 75, 3) := by decide +kernel
theorem zd_PS_instruction_47 : decode zb_PS_instruction 47 = .ok (.athrow, 1) := by decide +kernel
theorem zd_PS_instruction_48 : decode zb_PS_instruction 48 = .ok (.iload_n 3, 1) := by decide +kernel
theorem zd_PS_instruction_49 : decode zb_PS_instruction 49 = .ok (.ifCond .lt 9, 3) := by decide +kernel
theorem zd_PS_instruction_52 : decode zb_PS_instruction 52 = .ok (.iload_n 3, 1) := by decide +kernel
theorem zd_PS_instruction_53 : decode zb_PS_instruction 53 = .ok (.bipush 7, 2) := by decide +kernel
theorem zd_PS_instruction_55 : decode zb_PS_instruction 55 = .ok (.if_icmp .le 13, 3) := by decide +kernel
theorem zd_PS_instruction_58 : decode zb_PS_instruction 58 = .ok (.new 71, 3) := by decide +kernel
theorem zd_PS_instruction_61 : decode zb_PS_instruction 61 = .ok (.dup, 1) := by decide +kernel
theorem zd_PS_instruction_62 : decode zb_PS_instruction 62 = .ok (.ldc 136, 2) := by decide +kernel
theorem zd_PS_instruction_64 : decode zb_PS_instruction 64 = .ok (.invokespecial 75, 3) := by decide +kernel
theorem zd_PS_instruction_67 : decode zb_PS_instruction 67 = .ok (.athrow, 1) := by decide +kernel
theorem zd_PS_instruction_68 : decode zb_PS_instruction 68 = .ok (.aload_n 0, 1) := by decide +kernel
theorem zd_PS_instruction_69 : decode zb_PS_instruction 69 = .ok (.getfield 35, 3) := by decide +kernel
theorem zd_PS_instruction_72 : decode zb_PS_instruction 72 = .ok (.getfield 138, 3) := by decide +kernel
theorem zd_PS_instruction_75 : decode zb_PS_instruction 75 = .ok (.bipush 40, 2) := by decide +kernel
theorem zd_PS_instruction_77 : decode zb_PS_instruction 77 = .ok (.if_icmp .lt 13, 3) := by decide +kernel
theorem zd_PS_instruction_80 : decode zb_PS_instruction 80 = .ok (.new 82, 3) := by decide +kernel
theorem zd_PS_instruction_83 : decode zb_PS_instruction 83 = .ok (.dup, 1) := by decide +kernel
theorem zd_PS_instruction_84 : decode zb_PS_instruction 84 = .ok (.ldc 141, 2) := by decide +kernel
theorem zd_PS_instruction_86 : decode zb_PS_instruction 86 = .ok (.invokespecial 86, 3) := by decide +kernel
theorem zd_PS_instruction_89 : decode zb_PS_instruction 89 = .ok (.athrow, 1) := by decide +kernel
theorem zd_PS_instruction_90 : decode zb_PS_instruction 90 = .ok (.aload_n 0, 1) := by decide +kernel
theorem zd_PS_instruction_91 : decode zb_PS_instruction 91 = .ok (.getfield 35, 3) := by decide +kernel
theorem zd_PS_instruction_94 : decode zb_PS_instruction 94 = .ok (.iload_n 1, 1) := by decide +kernel
theorem zd_PS_instruction_95 : decode zb_PS_instruction 95 = .ok (.iload_n 2, 1) := by decide +kernel
theorem zd_PS_instruction_96 : decode zb_PS_instruction 96 = .ok (.iload_n 3, 1) := by decide +kernel
theorem zd_PS_instruction_97 : decode zb_PS_instruction 97 = .ok (.invokevirtual 143, 3) := by decide +kernel
theorem zd_PS_instruction_100 : decode zb_PS_instruction 100 = .ok (.ireturn, 1) := by decide +kernel
theorem zd_PS_memory_0 : decode zb_PS_memory 0 = .ok (.aload_n 0, 1) := by decide +kernel
theorem zd_PS_memory_1 : decode zb_PS_memory 1 = .ok (.getfield 19, 3) := by decide +kernel
theorem zd_PS_memory_4 : decode zb_PS_memory 4 = .ok (.iload_n 1, 1) := by decide +kernel
theorem zd_PS_memory_5 : decode zb_PS_memory 5 = .ok (.i2l, 1) := by decide +kernel
theorem zd_PS_memory_6 : decode zb_PS_memory 6 = .ok (.invokevirtual 147, 3) := by decide +kernel
theorem zd_PS_memory_9 : decode zb_PS_memory 9 = .ok (.ifCond .ne 13, 3) := by decide +kernel
theorem zd_PS_memory_12 : decode zb_PS_memory 12 = .ok (.new 151, 3) := by decide +kernel
theorem zd_PS_memory_15 : decode zb_PS_memory 15 = .ok (.dup, 1) := by decide +kernel
theorem zd_PS_memory_16 : decode zb_PS_memory 16 = .ok (.ldc 153, 2) := by decide +kernel
theorem zd_PS_memory_18 : decode zb_PS_memory 18 = .ok (.invokespecial 155, 3) := by decide +kernel
theorem zd_PS_memory_21 : decode zb_PS_memory 21 = .ok (.athrow, 1) := by decide +kernel
theorem zd_PS_memory_22 : decode zb_PS_memory 22 = .ok (.iload_n 2, 1) := by decide +kernel
theorem zd_PS_memory_23 : decode zb_PS_memory 23 = .ok (.ifCond .lt 10, 3) := by decide +kernel
theorem zd_PS_memory_26 : decode zb_PS_memory 26 = .ok (.iload_n 2, 1) := by decide +kernel
theorem zd_PS_memory_27 : decode zb_PS_memory 27 = .ok (.sipush 255, 3) := by decide +kernel
theorem zd_PS_memory_30 : decode zb_PS_memory 30 = .ok (.if_icmp .le 13, 3) := by decide +kernel
theorem zd_PS_memory_33 : decode zb_PS_memory 33 = .ok (.new 71, 3) := by decide +kernel
theorem zd_PS_memory_36 : decode zb_PS_memory 36 = .ok (.dup, 1) := by decide +kernel
theorem zd_PS_memory_37 : decode zb_PS_memory 37 = .ok (.ldc 156, 2) := by decide +kernel
theorem zd_PS_memory_39 : decode zb_PS_memory 39 = .ok (.invokespecial 75, 3) := by decide +kernel
theorem zd_PS_memory_42 : decode zb_PS_memory 42 = .ok (.athrow, 1) := by decide +kernel
theorem zd_PS_memory_43 : decode zb_PS_memory 43 = .ok (.aload_n 0, 1) := by decide +kernel
theorem zd_PS_memory_44 : decode zb_PS_memory 44 = .ok (.getfield 19, 3) := by decide +kernel
theorem zd_PS_memory_47 : decode zb_PS_memory 47 = .ok (.iload_n 1, 1) := by decide +kernel
theorem zd_PS_memory_48 : decode zb_PS_memory 48 = .ok (.invokevirtual 158, 3) := by decide +kernel
theorem zd_PS_memory_51 : decode zb_PS_memory 51 = .ok (.istore_n 3, 1) := by decide +kernel
theorem zd_PS_memory_52 : decode zb_PS_memory 52 = .ok (.aload_n 0, 1) := by decide +kernel
theorem zd_PS_memory_53 : decode zb_PS_memory 53 = .ok (.getfield 19, 3) := by decide +kernel
theorem zd_PS_memory_56 : decode zb_PS_memory 56 = .ok (.iload_n 1, 1) := by decide +kernel
theorem zd_PS_memory_57 : decode zb_PS_memory 57 = .ok (.iload_n 2, 1) := by decide +kernel
theorem zd_PS_memory_58 : decode zb_PS_memory 58 = .ok (.i2l, 1) := by decide +kernel
theorem zd_PS_memory_59 : decode zb_PS_memory 59 = .ok (.invokevirtual 161, 3) := by decide +kernel
theorem zd_PS_memory_62 : decode zb_PS_memory 62 = .ok (.iload_n 3, 1) := by decide +kernel
theorem zd_PS_memory_63 : decode zb_PS_memory 63 = .ok (.ireturn, 1) := by decide +kernel
theorem zd_PS_byteAt_0 : decode zb_PS_byteAt 0 = .ok (.aload_n 0, 1) := by decide +kernel
theorem zd_PS_byteAt_1 : decode zb_PS_byteAt 1 = .ok (.getfield 19, 3) := by decide +kernel
theorem zd_PS_byteAt_4 : decode zb_PS_byteAt 4 = .ok (.iload_n 1, 1) := by decide +kernel
theorem zd_PS_byteAt_5 : decode zb_PS_byteAt 5 = .ok (.i2l, 1) := by decide +kernel
theorem zd_PS_byteAt_6 : decode zb_PS_byteAt 6 = .ok (.invokevirtual 147, 3) := by decide +kernel
theorem zd_PS_byteAt_9 : decode zb_PS_byteAt 9 = .ok (.ifCond .ne 13, 3) := by decide +kernel
theorem zd_PS_byteAt_12 : decode zb_PS_byteAt 12 = .ok (.new 151, 3) := by decide +kernel
theorem zd_PS_byteAt_15 : decode zb_PS_byteAt 15 = .ok (.dup, 1) := by decide +kernel
theorem zd_PS_byteAt_16 : decode zb_PS_byteAt 16 = .ok (.ldc 153, 2) := by decide +kernel
theorem zd_PS_byteAt_18 : decode zb_PS_byteAt 18 = .ok (.invokespecial 155, 3) := by decide +kernel
theorem zd_PS_byteAt_21 : decode zb_PS_byteAt 21 = .ok (.athrow, 1) := by decide +kernel
theorem zd_PS_byteAt_22 : decode zb_PS_byteAt 22 = .ok (.aload_n 0, 1) := by decide +kernel
theorem zd_PS_byteAt_23 : decode zb_PS_byteAt 23 = .ok (.getfield 19, 3) := by decide +kernel
theorem zd_PS_byteAt_26 : decode zb_PS_byteAt 26 = .ok (.iload_n 1, 1) := by decide +kernel
theorem zd_PS_byteAt_27 : decode zb_PS_byteAt 27 = .ok (.invokevirtual 158, 3) := by decide +kernel
theorem zd_PS_byteAt_30 : decode zb_PS_byteAt 30 = .ok (.ireturn, 1) := by decide +kernel
theorem zd_PS_step_0 : decode zb_PS_step 0 = .ok (.iload_n 1, 1) := by decide +kernel
theorem zd_PS_step_1 : decode zb_PS_step 1 = .ok (.iconst 1, 1) := by decide +kernel
theorem zd_PS_step_2 : decode zb_PS_step 2 = .ok (.if_icmp .lt 10, 3) := by decide +kernel
theorem zd_PS_step_5 : decode zb_PS_step 5 = .ok (.iload_n 1, 1) := by decide +kernel
theorem zd_PS_step_6 : decode zb_PS_step 6 = .ok (.sipush 5000, 3) := by decide +kernel
theorem zd_PS_step_9 : decode zb_PS_step 9 = .ok (.if_icmp .le 13, 3) := by decide +kernel
theorem zd_PS_step_12 : decode zb_PS_step 12 = .ok (.new 71, 3) := by decide +kernel
theorem zd_PS_step_15 : decode zb_PS_step 15 = .ok (.dup, 1) := by decide +kernel
theorem zd_PS_step_16 : decode zb_PS_step 16 = .ok (.ldc 165, 2) := by decide +kernel
theorem zd_PS_step_18 : decode zb_PS_step 18 = .ok (.invokespecial 75, 3) := by decide +kernel
theorem zd_PS_step_21 : decode zb_PS_step 21 = .ok (.athrow, 1) := by decide +kernel
theorem zd_PS_step_22 : decode zb_PS_step 22 = .ok (.aload_n 0, 1) := by decide +kernel
theorem zd_PS_step_23 : decode zb_PS_step 23 = .ok (.getfield 67, 3) := by decide +kernel
theorem zd_PS_step_26 : decode zb_PS_step 26 = .ok (.getfield 167, 3) := by decide +kernel
theorem zd_PS_step_29 : decode zb_PS_step 29 = .ok (.ifCond .eq 13, 3) := by decide +kernel
theorem zd_PS_step_32 : decode zb_PS_step 32 = .ok (.new 170, 3) := by decide +kernel
theorem zd_PS_step_35 : decode zb_PS_step 35 = .ok (.dup, 1) := by decide +kernel
theorem zd_PS_step_36 : decode zb_PS_step 36 = .ok (.ldc 172, 2) := by decide +kernel
theorem zd_PS_step_38 : decode zb_PS_step 38 = .ok (.invokespecial 174, 3) := by decide +kernel
theorem zd_PS_step_41 : decode zb_PS_step 41 = .ok (.athrow, 1) := by decide +kernel
theorem zd_PS_step_42 : decode zb_PS_step 42 = .ok (.iconst 0, 1) := by decide +kernel
theorem zd_PS_step_43 : decode zb_PS_step 43 = .ok (.istore_n 2, 1) := by decide +kernel
theorem zd_PS_step_44 : decode zb_PS_step 44 = .ok (.iload_n 2, 1) := by decide +kernel
theorem zd_PS_step_45 : decode zb_PS_step 45 = .ok (.iload_n 1, 1) := by decide +kernel
theorem zd_PS_step_46 : decode zb_PS_step 46 = .ok (.if_icmp .ge 26, 3) := by decide +kernel
theorem zd_PS_step_49 : decode zb_PS_step 49 = .ok (.aload_n 0, 1) := by decide +kernel
theorem zd_PS_step_50 : decode zb_PS_step 50 = .ok (.getfield 67, 3) := by decide +kernel
theorem zd_PS_step_53 : decode zb_PS_step 53 = .ok (.getfield 167, 3) := by decide +kernel
theorem zd_PS_step_56 : decode zb_PS_step 56 = .ok (.ifCond .ne 16, 3) := by decide +kernel
theorem zd_PS_step_59 : decode zb_PS_step 59 = .ok (.aload_n 0, 1) := by decide +kernel
theorem zd_PS_step_60 : decode zb_PS_step 60 = .ok (.getfield 67, 3) := by decide +kernel
theorem zd_PS_step_63 : decode zb_PS_step 63 = .ok (.invokevirtual 175, 3) := by decide +kernel
theorem zd_PS_step_66 : decode zb_PS_step 66 = .ok (.iinc 2 1, 3) := by decide +kernel
theorem zd_PS_step_69 : decode zb_PS_step 69 = .ok (.goto (-25), 3) := by decide +kernel
theorem zd_PS_step_72 : decode zb_PS_step 72 = .ok (.iload_n 2, 1) := by decide +kernel
theorem zd_PS_step_73 : decode zb_PS_step 73 = .ok (.ireturn, 1) := by decide +kernel
theorem zd_PS_set_0 : decode zb_PS_set 0 = .ok (.aload_n 0, 1) := by decide +kernel
theorem zd_PS_set_1 : decode zb_PS_set 1 = .ok (.getfield 10, 3) := by decide +kernel
theorem zd_PS_set_4 : decode zb_PS_set 4 = .ok (.iload_n 1, 1) := by decide +kernel
theorem zd_PS_set_5 : decode zb_PS_set 5 = .ok (.invokevirtual 119, 3) := by decide +kernel
theorem zd_PS_set_8 : decode zb_PS_set 8 = .ok (.ifCond .ne 13, 3) := by decide +kernel
theorem zd_PS_set_11 : decode zb_PS_set 11 = .ok (.new 151, 3) := by decide +kernel
theorem zd_PS_set_14 : decode zb_PS_set 14 = .ok (.dup, 1) := by decide +kernel
theorem zd_PS_set_15 : decode zb_PS_set 15 = .ok (.ldc 120, 2) := by decide +kernel
theorem zd_PS_set_17 : decode zb_PS_set 17 = .ok (.invokespecial 155, 3) := by decide +kernel
theorem zd_PS_set_20 : decode zb_PS_set 20 = .ok (.athrow, 1) := by decide +kernel
theorem zd_PS_set_21 : decode zb_PS_set 21 = .ok (.aload_n 0, 1) := by decide +kernel
theorem zd_PS_set_22 : decode zb_PS_set 22 = .ok (.getfield 10, 3) := by decide +kernel
theorem zd_PS_set_25 : decode zb_PS_set 25 = .ok (.iload_n 1, 1) := by decide +kernel
theorem zd_PS_set_26 : decode zb_PS_set 26 = .ok (.invokevirtual 178, 3) := by decide +kernel
theorem zd_PS_set_29 : decode zb_PS_set 29 = .ok (.lstore 4, 2) := by decide +kernel
theorem zd_PS_set_31 : decode zb_PS_set 31 = .ok (.aload_n 0, 1) := by decide +kernel
theorem zd_PS_set_32 : decode zb_PS_set 32 = .ok (.getfield 10, 3) := by decide +kernel
theorem zd_PS_set_35 : decode zb_PS_set 35 = .ok (.iload_n 1, 1) := by decide +kernel
theorem zd_PS_set_36 : decode zb_PS_set 36 = .ok (.lload_n 2, 1) := by decide +kernel
theorem zd_PS_set_37 : decode zb_PS_set 37 = .ok (.iconst 0, 1) := by decide +kernel
theorem zd_PS_set_38 : decode zb_PS_set 38 = .ok (.invokevirtual 182, 3) := by decide +kernel
theorem zd_PS_set_41 : decode zb_PS_set 41 = .ok (.iload_n 1, 1) := by decide +kernel
theorem zd_PS_set_42 : decode zb_PS_set 42 = .ok (.ifCond .ne 10, 3) := by decide +kernel
theorem zd_PS_set_45 : decode zb_PS_set 45 = .ok (.aload_n 0, 1) := by decide +kernel
theorem zd_PS_set_46 : decode zb_PS_set 46 = .ok (.getfield 67, 3) := by decide +kernel
theorem zd_PS_set_49 : decode zb_PS_set 49 = .ok (.invokevirtual 186, 3) := by decide +kernel
theorem zd_PS_set_52 : decode zb_PS_set 52 = .ok (.lload 4, 2) := by decide +kernel
theorem zd_PS_set_54 : decode zb_PS_set 54 = .ok (.lreturn, 1) := by decide +kernel
theorem zd_PS_get_0 : decode zb_PS_get 0 = .ok (.aload_n 0, 1) := by decide +kernel
theorem zd_PS_get_1 : decode zb_PS_get 1 = .ok (.getfield 10, 3) := by decide +kernel
theorem zd_PS_get_4 : decode zb_PS_get 4 = .ok (.iload_n 1, 1) := by decide +kernel
theorem zd_PS_get_5 : decode zb_PS_get 5 = .ok (.invokevirtual 119, 3) := by decide +kernel
theorem zd_PS_get_8 : decode zb_PS_get 8 = .ok (.ifCond .ne 13, 3) := by decide +kernel
theorem zd_PS_get_11 : decode zb_PS_get 11 = .ok (.new 151, 3) := by decide +kernel
theorem zd_PS_get_14 : decode zb_PS_get 14 = .ok (.dup, 1) := by decide +kernel
theorem zd_PS_get_15 : decode zb_PS_get 15 = .ok (.ldc 120, 2) := by decide +kernel
theorem zd_PS_get_17 : decode zb_PS_get 17 = .ok (.invokespecial 155, 3) := by decide +kernel
theorem zd_PS_get_20 : decode zb_PS_get 20 = .ok (.athrow, 1) := by decide +kernel
theorem zd_PS_get_21 : decode zb_PS_get 21 = .ok (.aload_n 0, 1) := by decide +kernel
theorem zd_PS_get_22 : decode zb_PS_get 22 = .ok (.getfield 10, 3) := by decide +kernel
theorem zd_PS_get_25 : decode zb_PS_get 25 = .ok (.iload_n 1, 1) := by decide +kernel
theorem zd_PS_get_26 : decode zb_PS_get 26 = .ok (.invokevirtual 178, 3) := by decide +kernel
theorem zd_PS_get_29 : decode zb_PS_get 29 = .ok (.lreturn, 1) := by decide +kernel
theorem zd_PS_mark_0 : decode zb_PS_mark 0 = .ok (.aload_n 0, 1) := by decide +kernel
theorem zd_PS_mark_1 : decode zb_PS_mark 1 = .ok (.getfield 10, 3) := by decide +kernel
theorem zd_PS_mark_4 : decode zb_PS_mark 4 = .ok (.iload_n 1, 1) := by decide +kernel
theorem zd_PS_mark_5 : decode zb_PS_mark 5 = .ok (.invokevirtual 119, 3) := by decide +kernel
theorem zd_PS_mark_8 : decode zb_PS_mark 8 = .ok (.ifCond .ne 13, 3) := by decide +kernel
theorem zd_PS_mark_11 : decode zb_PS_mark 11 = .ok (.new 151, 3) := by decide +kernel
theorem zd_PS_mark_14 : decode zb_PS_mark 14 = .ok (.dup, 1) := by decide +kernel
theorem zd_PS_mark_15 : decode zb_PS_mark 15 = .ok (.ldc 120, 2) := by decide +kernel
theorem zd_PS_mark_17 : decode zb_PS_mark 17 = .ok (.invokespecial 155, 3) := by decide +kernel
theorem zd_PS_mark_20 : decode zb_PS_mark 20 = .ok (.athrow, 1) := by decide +kernel
theorem zd_PS_mark_21 : decode zb_PS_mark 21 = .ok (.aload_n 0, 1) := by decide +kernel
theorem zd_PS_mark_22 : decode zb_PS_mark 22 = .ok (.getfield 10, 3) := by decide +kernel
theorem zd_PS_mark_25 : decode zb_PS_mark 25 = .ok (.iload_n 1, 1) := by decide +kernel
theorem zd_PS_mark_26 : decode zb_PS_mark 26 = .ok (.invokevirtual 189, 3) := by decide +kernel
theorem zd_PS_mark_29 : decode zb_PS_mark 29 = .ok (.ireturn, 1) := by decide +kernel
theorem zd_PS_line_0 : decode zb_PS_line 0 = .ok (.aload_n 0, 1) := by decide +kernel
theorem zd_PS_line_1 : decode zb_PS_line 1 = .ok (.getfield 49, 3) := by decide +kernel
theorem zd_PS_line_4 : decode zb_PS_line 4 = .ok (.iload_n 1, 1) := by decide +kernel
theorem zd_PS_line_5 : decode zb_PS_line 5 = .ok (.invokevirtual 192, 3) := by decide +kernel
theorem zd_PS_line_8 : decode zb_PS_line 8 = .ok (.ifCond .ne 13, 3) := by decide +kernel
theorem zd_PS_line_11 : decode zb_PS_line 11 = .ok (.new 151, 3) := by decide +kernel
theorem zd_PS_line_14 : decode zb_PS_line 14 = .ok (.dup, 1) := by decide +kernel
theorem zd_PS_line_15 : decode zb_PS_line 15 = .ok (.ldc 193, 2) := by decide +kernel
theorem zd_PS_line_17 : decode zb_PS_line 17 = .ok (.invokespecial 155, 3) := by decide +kernel
theorem zd_PS_line_20 : decode zb_PS_line 20 = .ok (.athrow, 1) := by decide +kernel
theorem zd_PS_line_21 : decode zb_PS_line 21 = .ok (.aload_n 0, 1) := by decide +kernel
theorem zd_PS_line_22 : decode zb_PS_line 22 = .ok (.getfield 49, 3) := by decide +kernel
theorem zd_PS_line_25 : decode zb_PS_line 25 = .ok (.iload_n 1, 1) := by decide +kernel
theorem zd_PS_line_26 : decode zb_PS_line 26 = .ok (.iload_n 2, 1) := by decide +kernel
theorem zd_PS_line_27 : decode zb_PS_line 27 = .ok (.invokevirtual 195, 3) := by decide +kernel
theorem zd_PS_line_30 : decode zb_PS_line 30 = .ok (.ireturn, 1) := by decide +kernel
theorem zd_PS_enable_0 : decode zb_PS_enable 0 = .ok (.aload_n 0, 1) := by decide +kernel
theorem zd_PS_enable_1 : decode zb_PS_enable 1 = .ok (.getfield 49, 3) := by decide +kernel
theorem zd_PS_enable_4 : decode zb_PS_enable 4 = .ok (.iload_n 1, 1) := by decide +kernel
theorem zd_PS_enable_5 : decode zb_PS_enable 5 = .ok (.invokevirtual 192, 3) := by decide +kernel
theorem zd_PS_enable_8 : decode zb_PS_enable 8 = .ok (.ifCond .ne 13, 3) := by decide +kernel
theorem zd_PS_enable_11 : decode zb_PS_enable 11 = .ok (.new 151, 3) := by decide +kernel
theorem zd_PS_enable_14 : decode zb_PS_enable 14 = .ok (.dup, 1) := by decide +kernel
theorem zd_PS_enable_15 : decode zb_PS_enable 15 = .ok (.ldc 193, 2) := by decide +kernel
theorem zd_PS_enable_17 : decode zb_PS_enable 17 = .ok (.invokespecial 155, 3) := by decide +kernel
theorem zd_PS_enable_20 : decode zb_PS_enable 20 = .ok (.athrow, 1) := by decide +kernel
theorem zd_PS_enable_21 : decode zb_PS_enable 21 = .ok (.iload_n 2, 1) := by decide +kernel
theorem zd_PS_enable_22 : decode zb_PS_enable 22 = .ok (.ifCond .lt 9, 3) := by decide +kernel
theorem zd_PS_enable_25 : decode zb_PS_enable 25 = .ok (.iload_n 2, 1) := by decide +kernel
theorem zd_PS_enable_26 : decode zb_PS_enable 26 = .ok (.bipush 14, 2) := by decide +kernel
theorem zd_PS_enable_28 : decode zb_PS_enable 28 = .ok (.if_icmp .le 13, 3) := by decide +kernel
theorem zd_PS_enable_31 : decode zb_PS_enable 31 = .ok (.new 71, 3) := by decide +kernel
theorem zd_PS_enable_34 : decode zb_PS_enable 34 = .ok (.dup, 1) := by decide +kernel
theorem zd_PS_enable_35 : decode zb_PS_enable 35 = .ok (.ldc 199, 2) := by decide +kernel
theorem zd_PS_enable_37 : decode zb_PS_enable 37 = .ok (.invokespecial 75, 3) := by decide +kernel
theorem zd_PS_enable_40 : decode zb_PS_enable 40 = .ok (.athrow, 1) := by decide +kernel
theorem zd_PS_enable_41 : decode zb_PS_enable 41 = .ok (.aload_n 0, 1) := by decide +kernel
theorem zd_PS_enable_42 : decode zb_PS_enable 42 = .ok (.getfield 49, 3) := by decide +kernel
theorem zd_PS_enable_45 : decode zb_PS_enable 45 = .ok (.iload_n 1, 1) := by decide +kernel
theorem zd_PS_enable_46 : decode zb_PS_enable 46 = .ok (.iload_n 2, 1) := by decide +kernel
theorem zd_PS_enable_47 : decode zb_PS_enable 47 = .ok (.invokevirtual 201, 3) := by decide +kernel
theorem zd_PS_enable_50 : decode zb_PS_enable 50 = .ok (.ireturn, 1) := by decide +kernel
theorem zd_PS_fault_0 : decode zb_PS_fault 0 = .ok (.iload_n 1, 1) := by decide +kernel
theorem zd_PS_fault_1 : decode zb_PS_fault 1 = .ok (.ifCond .lt 8, 3) := by decide +kernel
theorem zd_PS_fault_4 : decode zb_PS_fault 4 = .ok (.iload_n 1, 1) := by decide +kernel
theorem zd_PS_fault_5 : decode zb_PS_fault 5 = .ok (.iconst 1, 1) := by decide +kernel
theorem zd_PS_fault_6 : decode zb_PS_fault 6 = .ok (.if_icmp .le 13, 3) := by decide +kernel
theorem zd_PS_fault_9 : decode zb_PS_fault 9 = .ok (.new 151, 3) := by decide +kernel
theorem zd_PS_fault_12 : decode zb_PS_fault 12 = .ok (.dup, 1) := by decide +kernel
theorem zd_PS_fault_13 : decode zb_PS_fault 13 = .ok (.ldc 205, 2) := by decide +kernel
theorem zd_PS_fault_15 : decode zb_PS_fault 15 = .ok (.invokespecial 155, 3) := by decide +kernel
theorem zd_PS_fault_18 : decode zb_PS_fault 18 = .ok (.athrow, 1) := by decide +kernel
theorem zd_PS_fault_19 : decode zb_PS_fault 19 = .ok (.iload_n 1, 1) := by decide +kernel
theorem zd_PS_fault_20 : decode zb_PS_fault 20 = .ok (.ifCond .ne 13, 3) := by decide +kernel
theorem zd_PS_fault_23 : decode zb_PS_fault 23 = .ok (.aload_n 0, 1) := by decide +kernel
theorem zd_PS_fault_24 : decode zb_PS_fault 24 = .ok (.getfield 67, 3) := by decide +kernel
theorem zd_PS_fault_27 : decode zb_PS_fault 27 = .ok (.getfield 207, 3) := by decide +kernel
theorem zd_PS_fault_30 : decode zb_PS_fault 30 = .ok (.goto 10, 3) := by decide +kernel
theorem zd_PS_fault_33 : decode zb_PS_fault 33 = .ok (.aload_n 0, 1) := by decide +kernel
theorem zd_PS_fault_34 : decode zb_PS_fault 34 = .ok (.getfield 67, 3) := by decide +kernel
theorem zd_PS_fault_37 : decode zb_PS_fault 37 = .ok (.getfield 210, 3) := by decide +kernel
theorem zd_PS_fault_40 : decode zb_PS_fault 40 = .ok (.ireturn, 1) := by decide +kernel
theorem zd_PS_halted_0 : decode zb_PS_halted 0 = .ok (.aload_n 0, 1) := by decide +kernel
theorem zd_PS_halted_1 : decode zb_PS_halted 1 = .ok (.getfield 67, 3) := by decide +kernel
theorem zd_PS_halted_4 : decode zb_PS_halted 4 = .ok (.getfield 167, 3) := by decide +kernel
theorem zd_PS_halted_7 : decode zb_PS_halted 7 = .ok (.ireturn, 1) := by decide +kernel
theorem zd_PS_counter_0 : decode zb_PS_counter 0 = .ok (.iload_n 1, 1) := by decide +kernel
theorem zd_PS_counter_1 : decode zb_PS_counter 1 = .ok (.ifCond .lt 9, 3) := by decide +kernel
theorem zd_PS_counter_4 : decode zb_PS_counter 4 = .ok (.iload_n 1, 1) := by decide +kernel
theorem zd_PS_counter_5 : decode zb_PS_counter 5 = .ok (.bipush 9, 2) := by decide +kernel
theorem zd_PS_counter_7 : decode zb_PS_counter 7 = .ok (.if_icmp .lt 13, 3) := by decide +kernel
theorem zd_PS_counter_10 : decode zb_PS_counter 10 = .ok (.new 151, 3) := by decide +kernel
theorem zd_PS_counter_13 : decode zb_PS_counter 13 = .ok (.dup, 1) := by decide +kernel
theorem zd_PS_counter_14 : decode zb_PS_counter 14 = .ok (.ldc 213, 2) := by decide +kernel
theorem zd_PS_counter_16 : decode zb_PS_counter 16 = .ok (.invokespecial 155, 3) := by decide +kernel
theorem zd_PS_counter_19 : decode zb_PS_counter 19 = .ok (.athrow, 1) := by decide +kernel
theorem zd_PS_counter_20 : decode zb_PS_counter 20 = .ok (.iload_n 1, 1) := by decide +kernel
theorem zd_PS_counter_21 : decode zb_PS_counter 21 = .ok (.bipush 6, 2) := by decide +kernel
theorem zd_PS_counter_23 : decode zb_PS_counter 23 = .ok (.if_icmp .ne 11, 3) := by decide +kernel
theorem zd_PS_counter_26 : decode zb_PS_counter 26 = .ok (.aload_n 0, 1) := by decide +kernel
theorem zd_PS_counter_27 : decode zb_PS_counter 27 = .ok (.getfield 42, 3) := by decide +kernel
theorem zd_PS_counter_30 : decode zb_PS_counter 30 = .ok (.getfield 215, 3) := by decide +kernel
theorem zd_PS_counter_33 : decode zb_PS_counter 33 = .ok (.ireturn, 1) := by decide +kernel
theorem zd_PS_counter_34 : decode zb_PS_counter 34 = .ok (.iload_n 1, 1) := by decide +kernel
theorem zd_PS_counter_35 : decode zb_PS_counter 35 = .ok (.bipush 7, 2) := by decide +kernel
theorem zd_PS_counter_37 : decode zb_PS_counter 37 = .ok (.if_icmp .ne 13, 3) := by decide +kernel
theorem zd_PS_counter_40 : decode zb_PS_counter 40 = .ok (.aload_n 0, 1) := by decide +kernel
theorem zd_PS_counter_41 : decode zb_PS_counter 41 = .ok (.getfield 42, 3) := by decide +kernel
theorem zd_PS_counter_44 : decode zb_PS_counter 44 = .ok (.getfield 218, 3) := by decide +kernel
theorem zd_PS_counter_47 : decode zb_PS_counter 47 = .ok (.goto 9, 3) := by decide +kernel
theorem zd_PS_counter_50 : decode zb_PS_counter 50 = .ok (.aload_n 0, 1) := by decide +kernel
theorem zd_PS_counter_51 : decode zb_PS_counter 51 = .ok (.getfield 53, 3) := by decide +kernel
theorem zd_PS_counter_54 : decode zb_PS_counter 54 = .ok (.iload_n 1, 1) := by decide +kernel
theorem zd_PS_counter_55 : decode zb_PS_counter 55 = .ok (.iaload, 1) := by decide +kernel
theorem zd_PS_counter_56 : decode zb_PS_counter 56 = .ok (.ireturn, 1) := by decide +kernel
end
section
abbrev W_Registers_add (kT : Nat → ClassId) (ad : Nat → Nat) (rn : Int32) (rc : Nat → Int64) (rm : Nat → Int32) : va_W := [(ad 1, .inr (0, [.ref (ad 2), .ref (ad 3), .ref (ad 4), .int rn])), (ad 2, .inl (kT 1, 24, .inr (.inl rc))), (ad 4, .inl (kT 2, 24, .inl rm))]
abbrev A_Registers_add (ad : Nat → Nat) : List Nat := [ad 1, ad 2, ad 4]
def wp_Registers_add (rn : Int32) (rc : Nat → Int64) (rm : Nat → Int32) (p0 : Int32) (post : Int32 → Int32 → (Nat → Int64) → (Nat → Int32) → Prop) : Prop := vp_in rn 24 ∧ vp_in rn 24 ∧ post ((rn + 1) - 1) (rn + 1) (vp_updL rc rn.toNatClampNeg (zq_j_lushr (-1) (64 - p0))) (upd rm rn.toNatClampNeg (vp_nar .boolean 1))
set_option maxHeartbeats 4000000 in
set_option maxRecDepth 100000 in
theorem c_Registers_add (l : Launch) (D : va_G) (kT : Nat → ClassId) (ad : Nat → Nat) (rn : Int32) (rc : Nat → Int64) (rm : Nat → Int32) (p0 : Int32) (post : Int32 → Int32 → (Nat → Int64) → (Nat → Int32) → Prop) (h : wp_Registers_add rn rc rm p0 post) : zq_Mi l zy_Registers_add zs_Registers_add ({ frames := 0, cells := 0, slots := 0, locals := 0 }) D kT [.ref (ad 1), .int p0] (W_Registers_add kT ad rn rc rm) (fun r w' => ∃ (rn' : Int32) (rc' : Nat → Int64) (rm' : Nat → Int32), w' = (W_Registers_add kT ad rn' rc' rm') ∧ post r rn' rc' rm') := by
  refine zq_Mi_of (adl := (A_Registers_add ad)) (cc := zb_Registers_add) (maxL := 2) (own := zR_Registers) rfl (by decide) rfl rfl (Nat.le_of_ble_eq_true rfl) ?_
  intro p e s m AV below meth c A QQ H locs ls hx hb hml hown ht hE hA hret hP hD hS hl
  have hK := hE.1
  have hl : lv_has ls 2 [(0, .ref (ad 1)), (1, .int p0)] := hl
  refine lv_aload_n hx hb zd_Registers_add_0 rfl (lv_at hl 0 rfl) ?_
  refine va_get (D := D) (ci := 0) (v := .ref (ad 2)) (C := zR_Registers) (T := zF_Registers) (N := 4) hx hb ht zi_Registers hown hK hP 0 rfl rfl 0 (by decide) (ht _ zw_120) (fun _ h9 => h9) rfl zd_Registers_add_1 ?_
  refine lv_aload_n hx hb zd_Registers_add_4 rfl (lv_at hl 0 rfl) ?_
  refine va_get (D := D) (ci := 0) (v := .int rn) (C := zR_Registers) (T := zF_Registers) (N := 4) hx hb ht zi_Registers hown hK hP 0 rfl rfl 3 (by decide) (ht _ zw_121) (fun _ h9 => h9) rfl zd_Registers_add_5 ?_
  refine W.ldc2 (v := (-1)) hx hb hown (ht _ zw_122) rfl zd_Registers_add_8 ?_
  refine W.eq (g2 := F0 m 11 ls [.long (-1), .int rn, .ref (ad 2)]) rfl ?_
  refine lv_bipush (v := 64) hx hb zd_Registers_add_11 (by decide) ?_
  refine lv_iload_n hx hb zd_Registers_add_13 rfl (lv_at hl 1 rfl) ?_
  refine lv_isub hx hb zd_Registers_add_14 ?_
  refine lv_lushr (v := (zq_j_lushr (-1) (64 - p0))) hx hb zd_Registers_add_15 rfl ?_
  obtain ⟨hi_1, h⟩ := h
  refine zq_a_last (D := D) hx hb hK hP hD hS 1 1 rfl rfl hi_1 rfl zd_Registers_add_16 (fun H locs hP hD hS => ?_)
  have hP : va_P D vwCl (W_Registers_add kT ad rn (vp_updL rc rn.toNatClampNeg (zq_j_lushr (-1) (64 - p0))) rm) H := hP
  have hD : va_D A (W_Registers_add kT ad rn (vp_updL rc rn.toNatClampNeg (zq_j_lushr (-1) (64 - p0))) rm) := hD
  refine lv_aload_n hx hb zd_Registers_add_17 rfl (lv_at hl 0 rfl) ?_
  refine va_get (D := D) (ci := 0) (v := .ref (ad 4)) (C := zR_Registers) (T := zF_Registers) (N := 4) hx hb ht zi_Registers hown hK hP 0 rfl rfl 2 (by decide) (ht _ zw_123) (fun _ h9 => h9) rfl zd_Registers_add_18 ?_
  refine lv_aload_n hx hb zd_Registers_add_21 rfl (lv_at hl 0 rfl) ?_
  refine va_get (D := D) (ci := 0) (v := .int rn) (C := zR_Registers) (T := zF_Registers) (N := 4) hx hb ht zi_Registers hown hK hP 0 rfl rfl 3 (by decide) (ht _ zw_121) (fun _ h9 => h9) rfl zd_Registers_add_22 ?_
  refine lv_iconst (v := 1) hx hb zd_Registers_add_25 (by decide) ?_
  obtain ⟨hi_2, h⟩ := h
  refine zq_a_zast (D := D) hx hb hK hP hD hS 2 2 rfl rfl hi_2 rfl zd_Registers_add_26 (fun H locs hP hD hS => ?_)
  have hP : va_P D vwCl (W_Registers_add kT ad rn (vp_updL rc rn.toNatClampNeg (zq_j_lushr (-1) (64 - p0))) (upd rm rn.toNatClampNeg (vp_nar .boolean 1))) H := hP
  have hD : va_D A (W_Registers_add kT ad rn (vp_updL rc rn.toNatClampNeg (zq_j_lushr (-1) (64 - p0))) (upd rm rn.toNatClampNeg (vp_nar .boolean 1))) := hD
  refine lv_aload_n hx hb zd_Registers_add_27 rfl (lv_at hl 0 rfl) ?_
  refine lv_dup hx hb zd_Registers_add_28 rfl ?_
  refine va_get (D := D) (ci := 0) (v := .int rn) (C := zR_Registers) (T := zF_Registers) (N := 4) hx hb ht zi_Registers hown hK hP 0 rfl rfl 3 (by decide) (ht _ zw_121) (fun _ h9 => h9) rfl zd_Registers_add_29 ?_
  refine lv_iconst (v := 1) hx hb zd_Registers_add_32 (by decide) ?_
  refine lv_iadd hx hb zd_Registers_add_33 ?_
  refine va_put (D := D) (ci := 0) (v := .int (rn + 1)) (ty := .int) (C := zR_Registers) (T := zF_Registers) (N := 4) hx hb ht zi_Registers zt_Registers zt_Registers_ok zn_Registers hown hK hP hD hS 0 rfl rfl 3 (by decide) (ht _ zw_121) (fun _ h9 => h9) rfl (by decide +kernel) rfl rfl (Nat.le_of_ble_eq_true rfl) zd_Registers_add_34 (fun H locs hP hD hS => ?_)
  have hP : va_P D vwCl (W_Registers_add kT ad (rn + 1) (vp_updL rc rn.toNatClampNeg (zq_j_lushr (-1) (64 - p0))) (upd rm rn.toNatClampNeg (vp_nar .boolean 1))) H := hP
  have hD : va_D A (W_Registers_add kT ad (rn + 1) (vp_updL rc rn.toNatClampNeg (zq_j_lushr (-1) (64 - p0))) (upd rm rn.toNatClampNeg (vp_nar .boolean 1))) := hD
  refine lv_aload_n hx hb zd_Registers_add_37 rfl (lv_at hl 0 rfl) ?_
  refine va_get (D := D) (ci := 0) (v := .int (rn + 1)) (C := zR_Registers) (T := zF_Registers) (N := 4) hx hb ht zi_Registers hown hK hP 0 rfl rfl 3 (by decide) (ht _ zw_121) (fun _ h9 => h9) rfl zd_Registers_add_38 ?_
  refine lv_iconst (v := 1) hx hb zd_Registers_add_41 (by decide) ?_
  refine lv_isub hx hb zd_Registers_add_42 ?_
  exact hret ((rn + 1) - 1)  _ H locs 43 ls ⟨(rn + 1), (vp_updL rc rn.toNatClampNeg (zq_j_lushr (-1) (64 - p0))), (upd rm rn.toNatClampNeg (vp_nar .boolean 1)), rfl, h⟩ hP rfl hS zd_Registers_add_43
abbrev W_Registers_has (kT : Nat → ClassId) (ad : Nat → Nat) (rn : Int32) : va_W := [(ad 1, .inr (0, [.ref (ad 2), .ref (ad 3), .ref (ad 4), .int rn]))]
abbrev A_Registers_has (ad : Nat → Nat) : List Nat := [ad 1]
def wp_Registers_has (rn : Int32) (p0 : Int32) (post : Int32 → Prop) : Prop := (if p0 < 0 then post 0  else (if rn ≤ p0 then post 0  else post 1 ))
set_option maxHeartbeats 4000000 in
set_option maxRecDepth 100000 in
theorem c_Registers_has (l : Launch) (D : va_G) (kT : Nat → ClassId) (ad : Nat → Nat) (rn : Int32) (p0 : Int32) (post : Int32 → Prop) (h : wp_Registers_has rn p0 post) : zq_Mi l zy_Registers_has zs_Registers_has ({ frames := 0, cells := 0, slots := 0, locals := 0 }) D kT [.ref (ad 1), .int p0] (W_Registers_has kT ad rn) (fun r w' => w' = (W_Registers_has kT ad rn) ∧ post r ) := by
  refine zq_Mz_of (adl := (A_Registers_has ad)) (cc := zb_Registers_has) (maxL := 2) (own := zR_Registers) rfl (by decide) rfl rfl (Nat.le_of_ble_eq_true rfl) ?_
  intro p e s m AV below meth c A QQ H locs ls hx hb hml hown ht hE hA hret hP hD hS hl
  have hK := hE.1
  have hl : lv_has ls 2 [(0, .ref (ad 1)), (1, .int p0)] := hl
  refine lv_iload_n hx hb zd_Registers_has_0 rfl (lv_at hl 1 rfl) ?_
  refine lv_if_lt (tgt := 16) hx hb zd_Registers_has_1 (by decide) (fun c_1 => ?_) (fun c_1 => ?_)
  · have h := zq_it c_1 h
    refine lv_iconst (v := 0) hx hb zd_Registers_has_16 (by decide) ?_
    exact hret 0 rfl _ H locs 17 ls ⟨rfl, h⟩ hP rfl hS zd_Registers_has_17
  · have h := zq_if c_1 h
    refine lv_iload_n hx hb zd_Registers_has_4 rfl (lv_at hl 1 rfl) ?_
    refine lv_aload_n hx hb zd_Registers_has_5 rfl (lv_at hl 0 rfl) ?_
    refine va_get (D := D) (ci := 0) (v := .int rn) (C := zR_Registers) (T := zF_Registers) (N := 4) hx hb ht zi_Registers hown hK hP 0 rfl rfl 3 (by decide) (ht _ zw_121) (fun _ h9 => h9) rfl zd_Registers_has_6 ?_
    refine lv_icmp_ge (tgt := 16) hx hb zd_Registers_has_9 (by decide) (fun c_2 => ?_) (fun c_2 => ?_)
    · have h := zq_it c_2 h
      refine lv_iconst (v := 0) hx hb zd_Registers_has_16 (by decide) ?_
      exact hret 0 rfl _ H locs 17 ls ⟨rfl, h⟩ hP rfl hS zd_Registers_has_17
    · have h := zq_if c_2 h
      refine lv_iconst (v := 1) hx hb zd_Registers_has_12 (by decide) ?_
      refine lv_goto (tgt := 17) hx hb zd_Registers_has_13 (by decide) ?_
      exact hret 1 rfl _ H locs 17 ls ⟨rfl, h⟩ hP rfl hS zd_Registers_has_17
abbrev W_Registers_valueOf (kT : Nat → ClassId) (ad : Nat → Nat) (rn : Int32) (rv : Nat → Int64) : va_W := [(ad 1, .inr (0, [.ref (ad 2), .ref (ad 3), .ref (ad 4), .int rn])), (ad 3, .inl (kT 1, 24, .inr (.inl rv)))]
abbrev A_Registers_valueOf (ad : Nat → Nat) : List Nat := [ad 1, ad 3]
def wp_Registers_valueOf (rn : Int32) (rv : Nat → Int64) (p0 : Int32) (post : Int64 → Prop) : Prop := vp_in p0 24 ∧ post (rv p0.toNatClampNeg) 
set_option maxHeartbeats 4000000 in
set_option maxRecDepth 100000 in
theorem c_Registers_valueOf (l : Launch) (D : va_G) (kT : Nat → ClassId) (ad : Nat → Nat) (rn : Int32) (rv : Nat → Int64) (p0 : Int32) (post : Int64 → Prop) (h : wp_Registers_valueOf rn rv p0 post) : zq_Ml l zy_Registers_valueOf zs_Registers_valueOf ({ frames := 0, cells := 0, slots := 0, locals := 0 }) D kT [.ref (ad 1), .int p0] (W_Registers_valueOf kT ad rn rv) (fun r w' => w' = (W_Registers_valueOf kT ad rn rv) ∧ post r ) := by
  refine zq_Ml_of (adl := (A_Registers_valueOf ad)) (cc := zb_Registers_valueOf) (maxL := 2) (own := zR_Registers) rfl (by decide) rfl rfl (Nat.le_of_ble_eq_true rfl) ?_
  intro p e s m AV below meth c A QQ H locs ls hx hb hml hown ht hE hA hret hP hD hS hl
  have hK := hE.1
  have hl : lv_has ls 2 [(0, .ref (ad 1)), (1, .int p0)] := hl
  refine lv_aload_n hx hb zd_Registers_valueOf_0 rfl (lv_at hl 0 rfl) ?_
  refine va_get (D := D) (ci := 0) (v := .ref (ad 3)) (C := zR_Registers) (T := zF_Registers) (N := 4) hx hb ht zi_Registers hown hK hP 0 rfl rfl 1 (by decide) (ht _ zw_124) (fun _ h9 => h9) rfl zd_Registers_valueOf_1 ?_
  refine lv_iload_n hx hb zd_Registers_valueOf_4 rfl (lv_at hl 1 rfl) ?_
  obtain ⟨hi_1, h⟩ := h
  refine zq_a_lald (D := D) hx hb hK hP 1 1 rfl rfl hi_1 rfl zd_Registers_valueOf_5 ?_
  exact hret (rv p0.toNatClampNeg)  _ H locs 6 ls ⟨rfl, h⟩ hP rfl hS zd_Registers_valueOf_6
abbrev W_Registers_isMarked (kT : Nat → ClassId) (ad : Nat → Nat) (rn : Int32) (rm : Nat → Int32) : va_W := [(ad 1, .inr (0, [.ref (ad 2), .ref (ad 3), .ref (ad 4), .int rn])), (ad 4, .inl (kT 2, 24, .inl rm))]
abbrev A_Registers_isMarked (ad : Nat → Nat) : List Nat := [ad 1, ad 4]
def wp_Registers_isMarked (rn : Int32) (rm : Nat → Int32) (p0 : Int32) (post : Int32 → Prop) : Prop := vp_in p0 24 ∧ zq_bz (rm p0.toNatClampNeg) ∧ post (rm p0.toNatClampNeg) 
set_option maxHeartbeats 4000000 in
set_option maxRecDepth 100000 in
theorem c_Registers_isMarked (l : Launch) (D : va_G) (kT : Nat → ClassId) (ad : Nat → Nat) (rn : Int32) (rm : Nat → Int32) (p0 : Int32) (post : Int32 → Prop) (h : wp_Registers_isMarked rn rm p0 post) : zq_Mi l zy_Registers_isMarked zs_Registers_isMarked ({ frames := 0, cells := 0, slots := 0, locals := 0 }) D kT [.ref (ad 1), .int p0] (W_Registers_isMarked kT ad rn rm) (fun r w' => w' = (W_Registers_isMarked kT ad rn rm) ∧ post r ) := by
  refine zq_Mz_of (adl := (A_Registers_isMarked ad)) (cc := zb_Registers_isMarked) (maxL := 2) (own := zR_Registers) rfl (by decide) rfl rfl (Nat.le_of_ble_eq_true rfl) ?_
  intro p e s m AV below meth c A QQ H locs ls hx hb hml hown ht hE hA hret hP hD hS hl
  have hK := hE.1
  have hl : lv_has ls 2 [(0, .ref (ad 1)), (1, .int p0)] := hl
  refine lv_aload_n hx hb zd_Registers_isMarked_0 rfl (lv_at hl 0 rfl) ?_
  refine va_get (D := D) (ci := 0) (v := .ref (ad 4)) (C := zR_Registers) (T := zF_Registers) (N := 4) hx hb ht zi_Registers hown hK hP 0 rfl rfl 2 (by decide) (ht _ zw_123) (fun _ h9 => h9) rfl zd_Registers_isMarked_1 ?_
  refine lv_iload_n hx hb zd_Registers_isMarked_4 rfl (lv_at hl 1 rfl) ?_
  obtain ⟨hi_1, h⟩ := h
  refine zq_a_zald (D := D) hx hb hK hP 1 2 rfl rfl hi_1 rfl zd_Registers_isMarked_5 ?_
  obtain ⟨hb_2, h⟩ := h
  exact hret (rm p0.toNatClampNeg) (zq_bzn hb_2) _ H locs 6 ls ⟨rfl, h⟩ hP rfl hS zd_Registers_isMarked_6
abbrev W_Registers_put (kT : Nat → ClassId) (ad : Nat → Nat) (rn : Int32) (rc : Nat → Int64) (rv : Nat → Int64) (rm : Nat → Int32) : va_W := [(ad 1, .inr (0, [.ref (ad 2), .ref (ad 3), .ref (ad 4), .int rn])), (ad 2, .inl (kT 1, 24, .inr (.inl rc))), (ad 3, .inl (kT 1, 24, .inr (.inl rv))), (ad 4, .inl (kT 2, 24, .inl rm))]
abbrev A_Registers_put (ad : Nat → Nat) : List Nat := [ad 1, ad 2, ad 3, ad 4]
def wp_Registers_put (rn : Int32) (rc : Nat → Int64) (rv : Nat → Int64) (rm : Nat → Int32) (p0 : Int32) (p1 : Int64) (p2 : Int32) (post : (Nat → Int64) → (Nat → Int32) → Prop) : Prop := vp_in p0 24 ∧ vp_in p0 24 ∧ vp_in p0 24 ∧ post  (vp_updL rv p0.toNatClampNeg (p1 &&& (rc p0.toNatClampNeg))) (upd rm p0.toNatClampNeg (vp_nar .boolean p2))
set_option maxHeartbeats 4000000 in
set_option maxRecDepth 100000 in
theorem c_Registers_put (l : Launch) (D : va_G) (kT : Nat → ClassId) (ad : Nat → Nat) (rn : Int32) (rc : Nat → Int64) (rv : Nat → Int64) (rm : Nat → Int32) (p0 : Int32) (p1 : Int64) (p2 : Int32) (post : (Nat → Int64) → (Nat → Int32) → Prop) (h : wp_Registers_put rn rc rv rm p0 p1 p2 post) : zq_Mv l zy_Registers_put zs_Registers_put ({ frames := 0, cells := 0, slots := 0, locals := 0 }) D kT [.ref (ad 1), .int p0, .long p1, .int p2] (W_Registers_put kT ad rn rc rv rm) (fun w' => ∃ (rv' : Nat → Int64) (rm' : Nat → Int32), w' = (W_Registers_put kT ad rn rc rv' rm') ∧ post  rv' rm') := by
  refine zq_Mv_of (adl := (A_Registers_put ad)) (cc := zb_Registers_put) (maxL := 5) (own := zR_Registers) rfl (by decide) rfl rfl (Nat.le_of_ble_eq_true rfl) ?_
  intro p e s m AV below meth c A QQ H locs ls hx hb hml hown ht hE hA hret hP hD hS hl
  have hK := hE.1
  have hl : lv_has ls 5 [(0, .ref (ad 1)), (1, .int p0), (2, .long p1), (4, .int p2)] := hl
  refine lv_aload_n hx hb zd_Registers_put_0 rfl (lv_at hl 0 rfl) ?_
  refine va_get (D := D) (ci := 0) (v := .ref (ad 3)) (C := zR_Registers) (T := zF_Registers) (N := 4) hx hb ht zi_Registers hown hK hP 0 rfl rfl 1 (by decide) (ht _ zw_124) (fun _ h9 => h9) rfl zd_Registers_put_1 ?_
  refine lv_iload_n hx hb zd_Registers_put_4 rfl (lv_at hl 1 rfl) ?_
  refine lv_lload_n hx hb zd_Registers_put_5 rfl (lv_at hl 2 rfl) ?_
  refine lv_aload_n hx hb zd_Registers_put_6 rfl (lv_at hl 0 rfl) ?_
  refine va_get (D := D) (ci := 0) (v := .ref (ad 2)) (C := zR_Registers) (T := zF_Registers) (N := 4) hx hb ht zi_Registers hown hK hP 0 rfl rfl 0 (by decide) (ht _ zw_120) (fun _ h9 => h9) rfl zd_Registers_put_7 ?_
  refine lv_iload_n hx hb zd_Registers_put_10 rfl (lv_at hl 1 rfl) ?_
  obtain ⟨hi_1, h⟩ := h
  refine zq_a_lald (D := D) hx hb hK hP 1 1 rfl rfl hi_1 rfl zd_Registers_put_11 ?_
  refine lv_land hx hb zd_Registers_put_12 ?_
  obtain ⟨hi_2, h⟩ := h
  refine zq_a_last (D := D) hx hb hK hP hD hS 2 1 rfl rfl hi_2 rfl zd_Registers_put_13 (fun H locs hP hD hS => ?_)
  have hP : va_P D vwCl (W_Registers_put kT ad rn rc (vp_updL rv p0.toNatClampNeg (p1 &&& (rc p0.toNatClampNeg))) rm) H := hP
  have hD : va_D A (W_Registers_put kT ad rn rc (vp_updL rv p0.toNatClampNeg (p1 &&& (rc p0.toNatClampNeg))) rm) := hD
  refine lv_aload_n hx hb zd_Registers_put_14 rfl (lv_at hl 0 rfl) ?_
  refine va_get (D := D) (ci := 0) (v := .ref (ad 4)) (C := zR_Registers) (T := zF_Registers) (N := 4) hx hb ht zi_Registers hown hK hP 0 rfl rfl 2 (by decide) (ht _ zw_123) (fun _ h9 => h9) rfl zd_Registers_put_15 ?_
  refine lv_iload_n hx hb zd_Registers_put_18 rfl (lv_at hl 1 rfl) ?_
  refine lv_iload hx hb zd_Registers_put_19 (lv_at hl 3 rfl) ?_
  obtain ⟨hi_3, h⟩ := h
  refine zq_a_zast (D := D) hx hb hK hP hD hS 3 2 rfl rfl hi_3 rfl zd_Registers_put_21 (fun H locs hP hD hS => ?_)
  have hP : va_P D vwCl (W_Registers_put kT ad rn rc (vp_updL rv p0.toNatClampNeg (p1 &&& (rc p0.toNatClampNeg))) (upd rm p0.toNatClampNeg (vp_nar .boolean p2))) H := hP
  have hD : va_D A (W_Registers_put kT ad rn rc (vp_updL rv p0.toNatClampNeg (p1 &&& (rc p0.toNatClampNeg))) (upd rm p0.toNatClampNeg (vp_nar .boolean p2))) := hD
  exact hret  _ H locs 22 ls ⟨(vp_updL rv p0.toNatClampNeg (p1 &&& (rc p0.toNatClampNeg))), (upd rm p0.toNatClampNeg (vp_nar .boolean p2)), rfl, h⟩ hP rfl hS zd_Registers_put_22
abbrev W_Registers_placeNow (kT : Nat → ClassId) (ad : Nat → Nat) (rn : Int32) (rv : Nat → Int64) : va_W := [(ad 1, .inr (0, [.ref (ad 2), .ref (ad 3), .ref (ad 4), .int rn])), (ad 3, .inl (kT 1, 24, .inr (.inl rv)))]
abbrev A_Registers_placeNow (ad : Nat → Nat) : List Nat := [ad 1, ad 3]
def wp_Registers_placeNow (rn : Int32) (rv : Nat → Int64)  (post : Int32 → Prop) : Prop := post (zq_j_l2i (rv 0)) 
set_option maxHeartbeats 4000000 in
set_option maxRecDepth 100000 in
theorem c_Registers_placeNow (l : Launch) (D : va_G) (kT : Nat → ClassId) (ad : Nat → Nat) (rn : Int32) (rv : Nat → Int64)  (post : Int32 → Prop) (h : wp_Registers_placeNow rn rv  post) : zq_Mi l zy_Registers_placeNow zs_Registers_placeNow ({ frames := 0, cells := 0, slots := 0, locals := 0 }) D kT [.ref (ad 1)] (W_Registers_placeNow kT ad rn rv) (fun r w' => w' = (W_Registers_placeNow kT ad rn rv) ∧ post r ) := by
  refine zq_Mi_of (adl := (A_Registers_placeNow ad)) (cc := zb_Registers_placeNow) (maxL := 1) (own := zR_Registers) rfl (by decide) rfl rfl (Nat.le_of_ble_eq_true rfl) ?_
  intro p e s m AV below meth c A QQ H locs ls hx hb hml hown ht hE hA hret hP hD hS hl
  have hK := hE.1
  have hl : lv_has ls 1 [(0, .ref (ad 1))] := hl
  refine lv_aload_n hx hb zd_Registers_placeNow_0 rfl (lv_at hl 0 rfl) ?_
  refine va_get (D := D) (ci := 0) (v := .ref (ad 3)) (C := zR_Registers) (T := zF_Registers) (N := 4) hx hb ht zi_Registers hown hK hP 0 rfl rfl 1 (by decide) (ht _ zw_124) (fun _ h9 => h9) rfl zd_Registers_placeNow_1 ?_
  refine lv_iconst (v := 0) hx hb zd_Registers_placeNow_4 (by decide) ?_
  refine zq_a_lald (D := D) (j := 0) hx hb hK hP 1 1 rfl rfl (zq_in (by decide)) (by decide) zd_Registers_placeNow_5 ?_
  refine lv_l2i (v := (zq_j_l2i (rv 0))) hx hb zd_Registers_placeNow_6 rfl ?_
  exact hret (zq_j_l2i (rv 0))  _ H locs 7 ls ⟨rfl, h⟩ hP rfl hS zd_Registers_placeNow_7
abbrev W_Registers_movePlace (kT : Nat → ClassId) (ad : Nat → Nat) (rn : Int32) (rc : Nat → Int64) (rv : Nat → Int64) (rm : Nat → Int32) : va_W := [(ad 1, .inr (0, [.ref (ad 2), .ref (ad 3), .ref (ad 4), .int rn])), (ad 2, .inl (kT 1, 24, .inr (.inl rc))), (ad 3, .inl (kT 1, 24, .inr (.inl rv))), (ad 4, .inl (kT 2, 24, .inl rm))]
abbrev A_Registers_movePlace (ad : Nat → Nat) : List Nat := [ad 1, ad 2, ad 3, ad 4]
def wp_Registers_movePlace (rn : Int32) (rc : Nat → Int64) (rv : Nat → Int64) (rm : Nat → Int32) (p0 : Int32) (post : (Nat → Int64) → (Nat → Int32) → Prop) : Prop := wp_Registers_put rn rc rv rm 0 (zq_j_i2l p0) (rm 0) (fun rv_1 rm_2 => post  rv_1 rm_2)
set_option maxHeartbeats 4000000 in
set_option maxRecDepth 100000 in
theorem c_Registers_movePlace (l : Launch) (D : va_G) (kT : Nat → ClassId) (ad : Nat → Nat) (rn : Int32) (rc : Nat → Int64) (rv : Nat → Int64) (rm : Nat → Int32) (p0 : Int32) (post : (Nat → Int64) → (Nat → Int32) → Prop) (h : wp_Registers_movePlace rn rc rv rm p0 post) : zq_Mv l zy_Registers_movePlace zs_Registers_movePlace ({ frames := 1, cells := 0, slots := 0, locals := 24 }) D kT [.ref (ad 1), .int p0] (W_Registers_movePlace kT ad rn rc rv rm) (fun w' => ∃ (rv' : Nat → Int64) (rm' : Nat → Int32), w' = (W_Registers_movePlace kT ad rn rc rv' rm') ∧ post  rv' rm') := by
  refine zq_Mv_of (adl := (A_Registers_movePlace ad)) (cc := zb_Registers_movePlace) (maxL := 2) (own := zR_Registers) rfl (by decide) rfl rfl (Nat.le_of_ble_eq_true rfl) ?_
  intro p e s m AV below meth c A QQ H locs ls hx hb hml hown ht hE hA hret hP hD hS hl
  have hK := hE.1
  have hl : lv_has ls 2 [(0, .ref (ad 1)), (1, .int p0)] := hl
  refine lv_aload_n hx hb zd_Registers_movePlace_0 rfl (lv_at hl 0 rfl) ?_
  refine lv_iconst (v := 0) hx hb zd_Registers_movePlace_1 (by decide) ?_
  refine lv_iload_n hx hb zd_Registers_movePlace_2 rfl (lv_at hl 1 rfl) ?_
  refine lv_i2l (v := (zq_j_i2l p0)) hx hb zd_Registers_movePlace_3 rfl ?_
  refine lv_aload_n hx hb zd_Registers_movePlace_4 rfl (lv_at hl 0 rfl) ?_
  refine va_get (D := D) (ci := 0) (v := .ref (ad 4)) (C := zR_Registers) (T := zF_Registers) (N := 4) hx hb ht zi_Registers hown hK hP 0 rfl rfl 2 (by decide) (ht _ zw_123) (fun _ h9 => h9) rfl zd_Registers_movePlace_5 ?_
  refine lv_iconst (v := 0) hx hb zd_Registers_movePlace_8 (by decide) ?_
  refine zq_a_zald (D := D) (j := 0) hx hb hK hP 3 2 rfl rfl (zq_in (by decide)) (by decide) zd_Registers_movePlace_9 ?_
  refine zq_c_Vv (rest := []) (adl := (A_Registers_movePlace ad)) (wr := []) ⟨hx, hb, hml, hown, ht⟩ (c_Registers_put l D kT ad rn rc rv rm 0 (zq_j_i2l p0) (rm 0) _ h) (cwV 3 ht (zq_gV zw_125 zw_126 zw_127 zw_128 zw_129) rfl rfl rfl zh_Registers_put ⟨Nat.le_of_ble_eq_true rfl, Nat.le_of_ble_eq_true rfl⟩) hE hP hD hS hA [0, 1, 2, 3] [] 4 rfl (by decide +kernel) rfl (by decide +kernel) rfl rfl 0 rfl rfl rfl rfl hl.1 (Nat.le_of_ble_eq_true rfl) rfl zd_Registers_movePlace_10 ⟨Nat.zero_le _, Nat.zero_le _⟩ (fun w1 H locs hw hJ hS => ?_)
  obtain ⟨rv_1, rm_2, rfl, h⟩ := hw
  obtain ⟨hP, hD⟩ := hJ (W_Registers_movePlace kT ad rn rc rv_1 rm_2) rfl rfl rfl
  exact hret  _ H locs 13 ls ⟨rv_1, rm_2, rfl, h⟩ hP rfl hS zd_Registers_movePlace_13
end
section
abbrev W_Bytes_hasByte (kT : Nat → ClassId) (ad : Nat → Nat)  : va_W := [(ad 5, .inr (1, [.ref (ad 6)]))]
abbrev A_Bytes_hasByte (ad : Nat → Nat) : List Nat := [ad 5]
def wp_Bytes_hasByte  (p0 : Int64) (post : Int32 → Prop) : Prop := (if p0 < 0 then post 0  else (if 4096 ≤ p0 then post 0  else post 1 ))
set_option maxHeartbeats 4000000 in
set_option maxRecDepth 100000 in
theorem c_Bytes_hasByte (l : Launch) (D : va_G) (kT : Nat → ClassId) (ad : Nat → Nat)  (p0 : Int64) (post : Int32 → Prop) (h : wp_Bytes_hasByte  p0 post) : zq_Mi l zy_Bytes_hasByte zs_Bytes_hasByte ({ frames := 0, cells := 0, slots := 0, locals := 0 }) D kT [.ref (ad 5), .long p0] (W_Bytes_hasByte kT ad ) (fun r w' => w' = (W_Bytes_hasByte kT ad ) ∧ post r ) := by
  refine zq_Mz_of (adl := (A_Bytes_hasByte ad)) (cc := zb_Bytes_hasByte) (maxL := 3) (own := zR_Bytes) rfl (by decide) rfl rfl (Nat.le_of_ble_eq_true rfl) ?_
  intro p e s m AV below meth c A QQ H locs ls hx hb hml hown ht hE hA hret hP hD hS hl
  have hK := hE.1
  have hl : lv_has ls 3 [(0, .ref (ad 5)), (1, .long p0)] := hl
  refine lv_lload_n hx hb zd_Bytes_hasByte_0 rfl (lv_at hl 1 rfl) ?_
  refine lv_lconst (v := 0) hx hb zd_Bytes_hasByte_1 (by decide) ?_
  refine W.lcmp hx hb zd_Bytes_hasByte_2 ?_
  refine lv_if_lt (tgt := 18) hx hb zd_Bytes_hasByte_3 (by decide) (fun c_1 => ?_) (fun c_1 => ?_)
  · have h := zq_it (zq_lc_lt.mp c_1) h
    refine lv_iconst (v := 0) hx hb zd_Bytes_hasByte_18 (by decide) ?_
    exact hret 0 rfl _ H locs 19 ls ⟨rfl, h⟩ hP rfl hS zd_Bytes_hasByte_19
  · have h := zq_if (fun z => c_1 (zq_lc_lt.mpr z)) h
    refine lv_lload_n hx hb zd_Bytes_hasByte_6 rfl (lv_at hl 1 rfl) ?_
    refine W.ldc2 (v := 4096) hx hb hown (ht _ zw_130) rfl zd_Bytes_hasByte_7 ?_
    refine W.eq (g2 := F0 m 10 ls [.long 4096, .long p0]) rfl ?_
    refine W.lcmp hx hb zd_Bytes_hasByte_10 ?_
    refine lv_if_ge (tgt := 18) hx hb zd_Bytes_hasByte_11 (by decide) (fun c_2 => ?_) (fun c_2 => ?_)
    · have h := zq_it (zq_lc_ge.mp c_2) h
      refine lv_iconst (v := 0) hx hb zd_Bytes_hasByte_18 (by decide) ?_
      exact hret 0 rfl _ H locs 19 ls ⟨rfl, h⟩ hP rfl hS zd_Bytes_hasByte_19
    · have h := zq_if (fun z => c_2 (zq_lc_ge.mpr z)) h
      refine lv_iconst (v := 1) hx hb zd_Bytes_hasByte_14 (by decide) ?_
      refine lv_goto (tgt := 19) hx hb zd_Bytes_hasByte_15 (by decide) ?_
      exact hret 1 rfl _ H locs 19 ls ⟨rfl, h⟩ hP rfl hS zd_Bytes_hasByte_19
abbrev W_Bytes_hasWord (kT : Nat → ClassId) (ad : Nat → Nat)  : va_W := [(ad 5, .inr (1, [.ref (ad 6)]))]
abbrev A_Bytes_hasWord (ad : Nat → Nat) : List Nat := [ad 5]
def wp_Bytes_hasWord  (p0 : Int64) (post : Int32 → Prop) : Prop := wp_Bytes_hasByte p0 (fun r_1 => (if r_1 = 0 then post 0  else (if (p0 &&& 1) = 0 then post 1  else post 0 )))
set_option maxHeartbeats 4000000 in
set_option maxRecDepth 100000 in
theorem c_Bytes_hasWord (l : Launch) (D : va_G) (kT : Nat → ClassId) (ad : Nat → Nat)  (p0 : Int64) (post : Int32 → Prop) (h : wp_Bytes_hasWord  p0 post) : zq_Mi l zy_Bytes_hasWord zs_Bytes_hasWord ({ frames := 1, cells := 0, slots := 0, locals := 22 }) D kT [.ref (ad 5), .long p0] (W_Bytes_hasWord kT ad ) (fun r w' => w' = (W_Bytes_hasWord kT ad ) ∧ post r ) := by
  refine zq_Mz_of (adl := (A_Bytes_hasWord ad)) (cc := zb_Bytes_hasWord) (maxL := 3) (own := zR_Bytes) rfl (by decide) rfl rfl (Nat.le_of_ble_eq_true rfl) ?_
  intro p e s m AV below meth c A QQ H locs ls hx hb hml hown ht hE hA hret hP hD hS hl
  have hK := hE.1
  have hl : lv_has ls 3 [(0, .ref (ad 5)), (1, .long p0)] := hl
  refine lv_aload_n hx hb zd_Bytes_hasWord_0 rfl (lv_at hl 0 rfl) ?_
  refine lv_lload_n hx hb zd_Bytes_hasWord_1 rfl (lv_at hl 1 rfl) ?_
  refine zq_c_Vi (rest := []) (adl := (A_Bytes_hasWord ad)) (wr := []) ⟨hx, hb, hml, hown, ht⟩ (c_Bytes_hasByte l D kT ad p0 _ h) (cwV 1 ht (zq_gV zw_131 zw_132 zw_133 zw_134 zw_135) rfl rfl rfl zh_Bytes_hasByte ⟨Nat.le_of_ble_eq_true rfl, Nat.le_of_ble_eq_true rfl⟩) hE hP hD hS hA [0] [] 1 rfl (by decide +kernel) rfl (by decide +kernel) rfl rfl 0 rfl rfl rfl rfl hl.1 (Nat.le_of_ble_eq_true rfl) rfl zd_Bytes_hasWord_2 ⟨Nat.zero_le _, Nat.zero_le _⟩ (fun r_1 w1 H locs hw hJ hS => ?_)
  obtain ⟨rfl, h⟩ := hw
  obtain ⟨hP, hD⟩ := hJ (W_Bytes_hasWord kT ad ) rfl rfl rfl
  refine lv_if_eq (tgt := 20) hx hb zd_Bytes_hasWord_5 (by decide) (fun c_2 => ?_) (fun c_2 => ?_)
  · have h := zq_it c_2 h
    refine lv_iconst (v := 0) hx hb zd_Bytes_hasWord_20 (by decide) ?_
    exact hret 0 rfl _ H locs 21 ls ⟨rfl, h⟩ hP rfl hS zd_Bytes_hasWord_21
  · have h := zq_if c_2 h
    refine lv_lload_n hx hb zd_Bytes_hasWord_8 rfl (lv_at hl 1 rfl) ?_
    refine lv_lconst (v := 1) hx hb zd_Bytes_hasWord_9 (by decide) ?_
    refine lv_land hx hb zd_Bytes_hasWord_10 ?_
    refine lv_lconst (v := 0) hx hb zd_Bytes_hasWord_11 (by decide) ?_
    refine W.lcmp hx hb zd_Bytes_hasWord_12 ?_
    refine lv_if_ne (tgt := 20) hx hb zd_Bytes_hasWord_13 (by decide) (fun c_3 => ?_) (fun c_3 => ?_)
    · have h := zq_if (fun z => c_3 (zq_lc_eq.mpr z)) h
      refine lv_iconst (v := 0) hx hb zd_Bytes_hasWord_20 (by decide) ?_
      exact hret 0 rfl _ H locs 21 ls ⟨rfl, h⟩ hP rfl hS zd_Bytes_hasWord_21
    · have h := zq_it (zq_lc_eq.mp c_3) h
      refine lv_iconst (v := 1) hx hb zd_Bytes_hasWord_16 (by decide) ?_
      refine lv_goto (tgt := 21) hx hb zd_Bytes_hasWord_17 (by decide) ?_
      exact hret 1 rfl _ H locs 21 ls ⟨rfl, h⟩ hP rfl hS zd_Bytes_hasWord_21
abbrev W_Bytes_byteOf (kT : Nat → ClassId) (ad : Nat → Nat) (bc : Nat → Int32) : va_W := [(ad 5, .inr (1, [.ref (ad 6)])), (ad 6, .inl (kT 3, 4096, .inl bc))]
abbrev A_Bytes_byteOf (ad : Nat → Nat) : List Nat := [ad 5, ad 6]
def wp_Bytes_byteOf (bc : Nat → Int32) (p0 : Int32) (post : Int32 → Prop) : Prop := vp_in p0 4096 ∧ post ((bc p0.toNatClampNeg) &&& 255) 
set_option maxHeartbeats 4000000 in
set_option maxRecDepth 100000 in
theorem c_Bytes_byteOf (l : Launch) (D : va_G) (kT : Nat → ClassId) (ad : Nat → Nat) (bc : Nat → Int32) (p0 : Int32) (post : Int32 → Prop) (h : wp_Bytes_byteOf bc p0 post) : zq_Mi l zy_Bytes_byteOf zs_Bytes_byteOf ({ frames := 0, cells := 0, slots := 0, locals := 0 }) D kT [.ref (ad 5), .int p0] (W_Bytes_byteOf kT ad bc) (fun r w' => w' = (W_Bytes_byteOf kT ad bc) ∧ post r ) := by
  refine zq_Mi_of (adl := (A_Bytes_byteOf ad)) (cc := zb_Bytes_byteOf) (maxL := 2) (own := zR_Bytes) rfl (by decide) rfl rfl (Nat.le_of_ble_eq_true rfl) ?_
  intro p e s m AV below meth c A QQ H locs ls hx hb hml hown ht hE hA hret hP hD hS hl
  have hK := hE.1
  have hl : lv_has ls 2 [(0, .ref (ad 5)), (1, .int p0)] := hl
  refine lv_aload_n hx hb zd_Bytes_byteOf_0 rfl (lv_at hl 0 rfl) ?_
  refine va_get (D := D) (ci := 1) (v := .ref (ad 6)) (C := zR_Bytes) (T := zF_Bytes) (N := 1) hx hb ht zi_Bytes hown hK hP 0 rfl rfl 0 (by decide) (ht _ zw_136) (fun _ h9 => h9) rfl zd_Bytes_byteOf_1 ?_
  refine lv_iload_n hx hb zd_Bytes_byteOf_4 rfl (lv_at hl 1 rfl) ?_
  obtain ⟨hi_1, h⟩ := h
  refine zq_a_bald (D := D) hx hb hK hP 1 3 rfl rfl hi_1 rfl zd_Bytes_byteOf_5 ?_
  refine lv_sipush (v := 255) hx hb zd_Bytes_byteOf_6 (by decide) ?_
  refine lv_iand hx hb zd_Bytes_byteOf_9 ?_
  exact hret ((bc p0.toNatClampNeg) &&& 255)  _ H locs 10 ls ⟨rfl, h⟩ hP rfl hS zd_Bytes_byteOf_10
abbrev W_Bytes_wordOf (kT : Nat → ClassId) (ad : Nat → Nat) (bc : Nat → Int32) : va_W := [(ad 5, .inr (1, [.ref (ad 6)])), (ad 6, .inl (kT 3, 4096, .inl bc))]
abbrev A_Bytes_wordOf (ad : Nat → Nat) : List Nat := [ad 5, ad 6]
def wp_Bytes_wordOf (bc : Nat → Int32) (p0 : Int32) (post : Int32 → Prop) : Prop := vp_in p0 4096 ∧ vp_in (p0 + 1) 4096 ∧ post (((bc p0.toNatClampNeg) &&& 255) ||| (((bc ((p0 + 1)).toNatClampNeg) &&& 255) <<< ((8 : Int32) &&& 31))) 
set_option maxHeartbeats 4000000 in
set_option maxRecDepth 100000 in
theorem c_Bytes_wordOf (l : Launch) (D : va_G) (kT : Nat → ClassId) (ad : Nat → Nat) (bc : Nat → Int32) (p0 : Int32) (post : Int32 → Prop) (h : wp_Bytes_wordOf bc p0 post) : zq_Mi l zy_Bytes_wordOf zs_Bytes_wordOf ({ frames := 0, cells := 0, slots := 0, locals := 0 }) D kT [.ref (ad 5), .int p0] (W_Bytes_wordOf kT ad bc) (fun r w' => w' = (W_Bytes_wordOf kT ad bc) ∧ post r ) := by
  refine zq_Mi_of (adl := (A_Bytes_wordOf ad)) (cc := zb_Bytes_wordOf) (maxL := 2) (own := zR_Bytes) rfl (by decide) rfl rfl (Nat.le_of_ble_eq_true rfl) ?_
  intro p e s m AV below meth c A QQ H locs ls hx hb hml hown ht hE hA hret hP hD hS hl
  have hK := hE.1
  have hl : lv_has ls 2 [(0, .ref (ad 5)), (1, .int p0)] := hl
  refine lv_aload_n hx hb zd_Bytes_wordOf_0 rfl (lv_at hl 0 rfl) ?_
  refine va_get (D := D) (ci := 1) (v := .ref (ad 6)) (C := zR_Bytes) (T := zF_Bytes) (N := 1) hx hb ht zi_Bytes hown hK hP 0 rfl rfl 0 (by decide) (ht _ zw_136) (fun _ h9 => h9) rfl zd_Bytes_wordOf_1 ?_
  refine lv_iload_n hx hb zd_Bytes_wordOf_4 rfl (lv_at hl 1 rfl) ?_
  obtain ⟨hi_1, h⟩ := h
  refine zq_a_bald (D := D) hx hb hK hP 1 3 rfl rfl hi_1 rfl zd_Bytes_wordOf_5 ?_
  refine lv_sipush (v := 255) hx hb zd_Bytes_wordOf_6 (by decide) ?_
  refine lv_iand hx hb zd_Bytes_wordOf_9 ?_
  refine lv_aload_n hx hb zd_Bytes_wordOf_10 rfl (lv_at hl 0 rfl) ?_
  refine va_get (D := D) (ci := 1) (v := .ref (ad 6)) (C := zR_Bytes) (T := zF_Bytes) (N := 1) hx hb ht zi_Bytes hown hK hP 0 rfl rfl 0 (by decide) (ht _ zw_136) (fun _ h9 => h9) rfl zd_Bytes_wordOf_11 ?_
  refine lv_iload_n hx hb zd_Bytes_wordOf_14 rfl (lv_at hl 1 rfl) ?_
  refine lv_iconst (v := 1) hx hb zd_Bytes_wordOf_15 (by decide) ?_
  refine lv_iadd hx hb zd_Bytes_wordOf_16 ?_
  obtain ⟨hi_2, h⟩ := h
  refine zq_a_bald (D := D) hx hb hK hP 1 3 rfl rfl hi_2 rfl zd_Bytes_wordOf_17 ?_
  refine lv_sipush (v := 255) hx hb zd_Bytes_wordOf_18 (by decide) ?_
  refine lv_iand hx hb zd_Bytes_wordOf_21 ?_
  refine lv_bipush (v := 8) hx hb zd_Bytes_wordOf_22 (by decide) ?_
  refine lv_ishl hx hb zd_Bytes_wordOf_24 ?_
  refine lv_ior hx hb zd_Bytes_wordOf_25 ?_
  exact hret (((bc p0.toNatClampNeg) &&& 255) ||| (((bc ((p0 + 1)).toNatClampNeg) &&& 255) <<< ((8 : Int32) &&& 31)))  _ H locs 26 ls ⟨rfl, h⟩ hP rfl hS zd_Bytes_wordOf_26
abbrev W_Bytes_putByte (kT : Nat → ClassId) (ad : Nat → Nat) (bc : Nat → Int32) : va_W := [(ad 5, .inr (1, [.ref (ad 6)])), (ad 6, .inl (kT 3, 4096, .inl bc))]
abbrev A_Bytes_putByte (ad : Nat → Nat) : List Nat := [ad 5, ad 6]
def wp_Bytes_putByte (bc : Nat → Int32) (p0 : Int32) (p1 : Int64) (post : (Nat → Int32) → Prop) : Prop := vp_in p0 4096 ∧ post  (upd bc p0.toNatClampNeg (vp_nar .byte (zq_j_i2b (zq_j_l2i p1))))
set_option maxHeartbeats 4000000 in
set_option maxRecDepth 100000 in
theorem c_Bytes_putByte (l : Launch) (D : va_G) (kT : Nat → ClassId) (ad : Nat → Nat) (bc : Nat → Int32) (p0 : Int32) (p1 : Int64) (post : (Nat → Int32) → Prop) (h : wp_Bytes_putByte bc p0 p1 post) : zq_Mv l zy_Bytes_putByte zs_Bytes_putByte ({ frames := 0, cells := 0, slots := 0, locals := 0 }) D kT [.ref (ad 5), .int p0, .long p1] (W_Bytes_putByte kT ad bc) (fun w' => ∃ (bc' : Nat → Int32), w' = (W_Bytes_putByte kT ad bc') ∧ post  bc') := by
  refine zq_Mv_of (adl := (A_Bytes_putByte ad)) (cc := zb_Bytes_putByte) (maxL := 4) (own := zR_Bytes) rfl (by decide) rfl rfl (Nat.le_of_ble_eq_true rfl) ?_
  intro p e s m AV below meth c A QQ H locs ls hx hb hml hown ht hE hA hret hP hD hS hl
  have hK := hE.1
  have hl : lv_has ls 4 [(0, .ref (ad 5)), (1, .int p0), (2, .long p1)] := hl
  refine lv_aload_n hx hb zd_Bytes_putByte_0 rfl (lv_at hl 0 rfl) ?_
  refine va_get (D := D) (ci := 1) (v := .ref (ad 6)) (C := zR_Bytes) (T := zF_Bytes) (N := 1) hx hb ht zi_Bytes hown hK hP 0 rfl rfl 0 (by decide) (ht _ zw_136) (fun _ h9 => h9) rfl zd_Bytes_putByte_1 ?_
  refine lv_iload_n hx hb zd_Bytes_putByte_4 rfl (lv_at hl 1 rfl) ?_
  refine lv_lload_n hx hb zd_Bytes_putByte_5 rfl (lv_at hl 2 rfl) ?_
  refine lv_l2i (v := (zq_j_l2i p1)) hx hb zd_Bytes_putByte_6 rfl ?_
  refine lv_i2b (v := (zq_j_i2b (zq_j_l2i p1))) hx hb zd_Bytes_putByte_7 rfl ?_
  obtain ⟨hi_1, h⟩ := h
  refine zq_a_bast (D := D) hx hb hK hP hD hS 1 3 rfl rfl hi_1 rfl zd_Bytes_putByte_8 (fun H locs hP hD hS => ?_)
  have hP : va_P D vwCl (W_Bytes_putByte kT ad (upd bc p0.toNatClampNeg (vp_nar .byte (zq_j_i2b (zq_j_l2i p1))))) H := hP
  have hD : va_D A (W_Bytes_putByte kT ad (upd bc p0.toNatClampNeg (vp_nar .byte (zq_j_i2b (zq_j_l2i p1))))) := hD
  exact hret  _ H locs 9 ls ⟨(upd bc p0.toNatClampNeg (vp_nar .byte (zq_j_i2b (zq_j_l2i p1)))), rfl, h⟩ hP rfl hS zd_Bytes_putByte_9
abbrev W_Bytes_putWord (kT : Nat → ClassId) (ad : Nat → Nat) (bc : Nat → Int32) : va_W := [(ad 5, .inr (1, [.ref (ad 6)])), (ad 6, .inl (kT 3, 4096, .inl bc))]
abbrev A_Bytes_putWord (ad : Nat → Nat) : List Nat := [ad 5, ad 6]
def wp_Bytes_putWord (bc : Nat → Int32) (p0 : Int32) (p1 : Int64) (post : (Nat → Int32) → Prop) : Prop := vp_in p0 4096 ∧ vp_in (p0 + 1) 4096 ∧ post  (upd (upd bc p0.toNatClampNeg (vp_nar .byte (zq_j_i2b (zq_j_l2i p1)))) ((p0 + 1)).toNatClampNeg (vp_nar .byte (zq_j_i2b (zq_j_l2i (zq_j_lushr p1 8)))))
set_option maxHeartbeats 4000000 in
set_option maxRecDepth 100000 in
theorem c_Bytes_putWord (l : Launch) (D : va_G) (kT : Nat → ClassId) (ad : Nat → Nat) (bc : Nat → Int32) (p0 : Int32) (p1 : Int64) (post : (Nat → Int32) → Prop) (h : wp_Bytes_putWord bc p0 p1 post) : zq_Mv l zy_Bytes_putWord zs_Bytes_putWord ({ frames := 0, cells := 0, slots := 0, locals := 0 }) D kT [.ref (ad 5), .int p0, .long p1] (W_Bytes_putWord kT ad bc) (fun w' => ∃ (bc' : Nat → Int32), w' = (W_Bytes_putWord kT ad bc') ∧ post  bc') := by
  refine zq_Mv_of (adl := (A_Bytes_putWord ad)) (cc := zb_Bytes_putWord) (maxL := 4) (own := zR_Bytes) rfl (by decide) rfl rfl (Nat.le_of_ble_eq_true rfl) ?_
  intro p e s m AV below meth c A QQ H locs ls hx hb hml hown ht hE hA hret hP hD hS hl
  have hK := hE.1
  have hl : lv_has ls 4 [(0, .ref (ad 5)), (1, .int p0), (2, .long p1)] := hl
  refine lv_aload_n hx hb zd_Bytes_putWord_0 rfl (lv_at hl 0 rfl) ?_
  refine va_get (D := D) (ci := 1) (v := .ref (ad 6)) (C := zR_Bytes) (T := zF_Bytes) (N := 1) hx hb ht zi_Bytes hown hK hP 0 rfl rfl 0 (by decide) (ht _ zw_136) (fun _ h9 => h9) rfl zd_Bytes_putWord_1 ?_
  refine lv_iload_n hx hb zd_Bytes_putWord_4 rfl (lv_at hl 1 rfl) ?_
  refine lv_lload_n hx hb zd_Bytes_putWord_5 rfl (lv_at hl 2 rfl) ?_
  refine lv_l2i (v := (zq_j_l2i p1)) hx hb zd_Bytes_putWord_6 rfl ?_
  refine lv_i2b (v := (zq_j_i2b (zq_j_l2i p1))) hx hb zd_Bytes_putWord_7 rfl ?_
  obtain ⟨hi_1, h⟩ := h
  refine zq_a_bast (D := D) hx hb hK hP hD hS 1 3 rfl rfl hi_1 rfl zd_Bytes_putWord_8 (fun H locs hP hD hS => ?_)
  have hP : va_P D vwCl (W_Bytes_putWord kT ad (upd bc p0.toNatClampNeg (vp_nar .byte (zq_j_i2b (zq_j_l2i p1))))) H := hP
  have hD : va_D A (W_Bytes_putWord kT ad (upd bc p0.toNatClampNeg (vp_nar .byte (zq_j_i2b (zq_j_l2i p1))))) := hD
  refine lv_aload_n hx hb zd_Bytes_putWord_9 rfl (lv_at hl 0 rfl) ?_
  refine va_get (D := D) (ci := 1) (v := .ref (ad 6)) (C := zR_Bytes) (T := zF_Bytes) (N := 1) hx hb ht zi_Bytes hown hK hP 0 rfl rfl 0 (by decide) (ht _ zw_136) (fun _ h9 => h9) rfl zd_Bytes_putWord_10 ?_
  refine lv_iload_n hx hb zd_Bytes_putWord_13 rfl (lv_at hl 1 rfl) ?_
  refine lv_iconst (v := 1) hx hb zd_Bytes_putWord_14 (by decide) ?_
  refine lv_iadd hx hb zd_Bytes_putWord_15 ?_
  refine lv_lload_n hx hb zd_Bytes_putWord_16 rfl (lv_at hl 2 rfl) ?_
  refine lv_bipush (v := 8) hx hb zd_Bytes_putWord_17 (by decide) ?_
  refine lv_lushr (v := (zq_j_lushr p1 8)) hx hb zd_Bytes_putWord_19 rfl ?_
  refine lv_l2i (v := (zq_j_l2i (zq_j_lushr p1 8))) hx hb zd_Bytes_putWord_20 rfl ?_
  refine lv_i2b (v := (zq_j_i2b (zq_j_l2i (zq_j_lushr p1 8)))) hx hb zd_Bytes_putWord_21 rfl ?_
  obtain ⟨hi_2, h⟩ := h
  refine zq_a_bast (D := D) hx hb hK hP hD hS 1 3 rfl rfl hi_2 rfl zd_Bytes_putWord_22 (fun H locs hP hD hS => ?_)
  have hP : va_P D vwCl (W_Bytes_putWord kT ad (upd (upd bc p0.toNatClampNeg (vp_nar .byte (zq_j_i2b (zq_j_l2i p1)))) ((p0 + 1)).toNatClampNeg (vp_nar .byte (zq_j_i2b (zq_j_l2i (zq_j_lushr p1 8)))))) H := hP
  have hD : va_D A (W_Bytes_putWord kT ad (upd (upd bc p0.toNatClampNeg (vp_nar .byte (zq_j_i2b (zq_j_l2i p1)))) ((p0 + 1)).toNatClampNeg (vp_nar .byte (zq_j_i2b (zq_j_l2i (zq_j_lushr p1 8)))))) := hD
  exact hret  _ H locs 23 ls ⟨(upd (upd bc p0.toNatClampNeg (vp_nar .byte (zq_j_i2b (zq_j_l2i p1)))) ((p0 + 1)).toNatClampNeg (vp_nar .byte (zq_j_i2b (zq_j_l2i (zq_j_lushr p1 8))))), rfl, h⟩ hP rfl hS zd_Bytes_putWord_23
end
section
abbrev W_Operands_addConstant (kT : Nat → ClassId) (ad : Nat → Nat) (ocn : Int32) (ofn : Int32) (oc : Nat → Int64) : va_W := [(ad 7, .inr (2, [.ref (ad 1), .ref (ad 8), .ref (ad 9), .ref (ad 10), .ref (ad 11), .int ocn, .int ofn])), (ad 8, .inl (kT 1, 16, .inr (.inl oc)))]
abbrev A_Operands_addConstant (ad : Nat → Nat) : List Nat := [ad 7, ad 8]
def wp_Operands_addConstant (ocn : Int32) (ofn : Int32) (oc : Nat → Int64) (p0 : Int64) (post : Int32 → Int32 → (Nat → Int64) → Prop) : Prop := vp_in ocn 16 ∧ post ((32 + (ocn + 1)) - 1) (ocn + 1) (vp_updL oc ocn.toNatClampNeg p0)
set_option maxHeartbeats 4000000 in
set_option maxRecDepth 100000 in
theorem c_Operands_addConstant (l : Launch) (D : va_G) (kT : Nat → ClassId) (ad : Nat → Nat) (ocn : Int32) (ofn : Int32) (oc : Nat → Int64) (p0 : Int64) (post : Int32 → Int32 → (Nat → Int64) → Prop) (h : wp_Operands_addConstant ocn ofn oc p0 post) : zq_Mi l zy_Operands_addConstant zs_Operands_addConstant ({ frames := 0, cells := 0, slots := 0, locals := 0 }) D kT [.ref (ad 7), .long p0] (W_Operands_addConstant kT ad ocn ofn oc) (fun r w' => ∃ (ocn' : Int32) (oc' : Nat → Int64), w' = (W_Operands_addConstant kT ad ocn' ofn oc') ∧ post r ocn' oc') := by
  refine zq_Mi_of (adl := (A_Operands_addConstant ad)) (cc := zb_Operands_addConstant) (maxL := 3) (own := zR_Operands) rfl (by decide) rfl rfl (Nat.le_of_ble_eq_true rfl) ?_
  intro p e s m AV below meth c A QQ H locs ls hx hb hml hown ht hE hA hret hP hD hS hl
  have hK := hE.1
  have hl : lv_has ls 3 [(0, .ref (ad 7)), (1, .long p0)] := hl
  refine lv_aload_n hx hb zd_Operands_addConstant_0 rfl (lv_at hl 0 rfl) ?_
  refine va_get (D := D) (ci := 2) (v := .ref (ad 8)) (C := zR_Operands) (T := zF_Operands) (N := 7) hx hb ht zi_Operands hown hK hP 0 rfl rfl 1 (by decide) (ht _ zw_137) (fun _ h9 => h9) rfl zd_Operands_addConstant_1 ?_
  refine lv_aload_n hx hb zd_Operands_addConstant_4 rfl (lv_at hl 0 rfl) ?_
  refine va_get (D := D) (ci := 2) (v := .int ocn) (C := zR_Operands) (T := zF_Operands) (N := 7) hx hb ht zi_Operands hown hK hP 0 rfl rfl 5 (by decide) (ht _ zw_138) (fun _ h9 => h9) rfl zd_Operands_addConstant_5 ?_
  refine lv_lload_n hx hb zd_Operands_addConstant_8 rfl (lv_at hl 1 rfl) ?_
  obtain ⟨hi_1, h⟩ := h
  refine zq_a_last (D := D) hx hb hK hP hD hS 1 1 rfl rfl hi_1 rfl zd_Operands_addConstant_9 (fun H locs hP hD hS => ?_)
  have hP : va_P D vwCl (W_Operands_addConstant kT ad ocn ofn (vp_updL oc ocn.toNatClampNeg p0)) H := hP
  have hD : va_D A (W_Operands_addConstant kT ad ocn ofn (vp_updL oc ocn.toNatClampNeg p0)) := hD
  refine lv_aload_n hx hb zd_Operands_addConstant_10 rfl (lv_at hl 0 rfl) ?_
  refine lv_dup hx hb zd_Operands_addConstant_11 rfl ?_
  refine va_get (D := D) (ci := 2) (v := .int ocn) (C := zR_Operands) (T := zF_Operands) (N := 7) hx hb ht zi_Operands hown hK hP 0 rfl rfl 5 (by decide) (ht _ zw_138) (fun _ h9 => h9) rfl zd_Operands_addConstant_12 ?_
  refine lv_iconst (v := 1) hx hb zd_Operands_addConstant_15 (by decide) ?_
  refine lv_iadd hx hb zd_Operands_addConstant_16 ?_
  refine va_put (D := D) (ci := 2) (v := .int (ocn + 1)) (ty := .int) (C := zR_Operands) (T := zF_Operands) (N := 7) hx hb ht zi_Operands zt_Operands zt_Operands_ok zn_Operands hown hK hP hD hS 0 rfl rfl 5 (by decide) (ht _ zw_138) (fun _ h9 => h9) rfl (by decide +kernel) rfl rfl (Nat.le_of_ble_eq_true rfl) zd_Operands_addConstant_17 (fun H locs hP hD hS => ?_)
  have hP : va_P D vwCl (W_Operands_addConstant kT ad (ocn + 1) ofn (vp_updL oc ocn.toNatClampNeg p0)) H := hP
  have hD : va_D A (W_Operands_addConstant kT ad (ocn + 1) ofn (vp_updL oc ocn.toNatClampNeg p0)) := hD
  refine lv_bipush (v := 32) hx hb zd_Operands_addConstant_20 (by decide) ?_
  refine lv_aload_n hx hb zd_Operands_addConstant_22 rfl (lv_at hl 0 rfl) ?_
  refine va_get (D := D) (ci := 2) (v := .int (ocn + 1)) (C := zR_Operands) (T := zF_Operands) (N := 7) hx hb ht zi_Operands hown hK hP 0 rfl rfl 5 (by decide) (ht _ zw_138) (fun _ h9 => h9) rfl zd_Operands_addConstant_23 ?_
  refine lv_iadd hx hb zd_Operands_addConstant_26 ?_
  refine lv_iconst (v := 1) hx hb zd_Operands_addConstant_27 (by decide) ?_
  refine lv_isub hx hb zd_Operands_addConstant_28 ?_
  exact hret ((32 + (ocn + 1)) - 1)  _ H locs 29 ls ⟨(ocn + 1), (vp_updL oc ocn.toNatClampNeg p0), rfl, h⟩ hP rfl hS zd_Operands_addConstant_29
abbrev W_Operands_addField (kT : Nat → ClassId) (ad : Nat → Nat) (ocn : Int32) (ofn : Int32) (ofr : Nat → Int32) (oto : Nat → Int32) (osg : Nat → Int32) : va_W := [(ad 7, .inr (2, [.ref (ad 1), .ref (ad 8), .ref (ad 9), .ref (ad 10), .ref (ad 11), .int ocn, .int ofn])), (ad 9, .inl (kT 0, 16, .inl ofr)), (ad 10, .inl (kT 0, 16, .inl oto)), (ad 11, .inl (kT 2, 16, .inl osg))]
abbrev A_Operands_addField (ad : Nat → Nat) : List Nat := [ad 7, ad 9, ad 10, ad 11]
def wp_Operands_addField (ocn : Int32) (ofn : Int32) (ofr : Nat → Int32) (oto : Nat → Int32) (osg : Nat → Int32) (p0 : Int32) (p1 : Int32) (p2 : Int32) (post : Int32 → Int32 → (Nat → Int32) → (Nat → Int32) → (Nat → Int32) → Prop) : Prop := vp_in ofn 16 ∧ vp_in ofn 16 ∧ vp_in ofn 16 ∧ post ((64 + (ofn + 1)) - 1) (ofn + 1) (upd ofr ofn.toNatClampNeg p0) (upd oto ofn.toNatClampNeg p1) (upd osg ofn.toNatClampNeg (vp_nar .boolean p2))
set_option maxHeartbeats 4000000 in
set_option maxRecDepth 100000 in
theorem c_Operands_addField (l : Launch) (D : va_G) (kT : Nat → ClassId) (ad : Nat → Nat) (ocn : Int32) (ofn : Int32) (ofr : Nat → Int32) (oto : Nat → Int32) (osg : Nat → Int32) (p0 : Int32) (p1 : Int32) (p2 : Int32) (post : Int32 → Int32 → (Nat → Int32) → (Nat → Int32) → (Nat → Int32) → Prop) (h : wp_Operands_addField ocn ofn ofr oto osg p0 p1 p2 post) : zq_Mi l zy_Operands_addField zs_Operands_addField ({ frames := 0, cells := 0, slots := 0, locals := 0 }) D kT [.ref (ad 7), .int p0, .int p1, .int p2] (W_Operands_addField kT ad ocn ofn ofr oto osg) (fun r w' => ∃ (ofn' : Int32) (ofr' : Nat → Int32) (oto' : Nat → Int32) (osg' : Nat → Int32), w' = (W_Operands_addField kT ad ocn ofn' ofr' oto' osg') ∧ post r ofn' ofr' oto' osg') := by
  refine zq_Mi_of (adl := (A_Operands_addField ad)) (cc := zb_Operands_addField) (maxL := 4) (own := zR_Operands) rfl (by decide) rfl rfl (Nat.le_of_ble_eq_true rfl) ?_
  intro p e s m AV below meth c A QQ H locs ls hx hb hml hown ht hE hA hret hP hD hS hl
  have hK := hE.1
  have hl : lv_has ls 4 [(0, .ref (ad 7)), (1, .int p0), (2, .int p1), (3, .int p2)] := hl
  refine lv_aload_n hx hb zd_Operands_addField_0 rfl (lv_at hl 0 rfl) ?_
  refine va_get (D := D) (ci := 2) (v := .ref (ad 9)) (C := zR_Operands) (T := zF_Operands) (N := 7) hx hb ht zi_Operands hown hK hP 0 rfl rfl 2 (by decide) (ht _ zw_139) (fun _ h9 => h9) rfl zd_Operands_addField_1 ?_
  refine lv_aload_n hx hb zd_Operands_addField_4 rfl (lv_at hl 0 rfl) ?_
  refine va_get (D := D) (ci := 2) (v := .int ofn) (C := zR_Operands) (T := zF_Operands) (N := 7) hx hb ht zi_Operands hown hK hP 0 rfl rfl 6 (by decide) (ht _ zw_140) (fun _ h9 => h9) rfl zd_Operands_addField_5 ?_
  refine lv_iload_n hx hb zd_Operands_addField_8 rfl (lv_at hl 1 rfl) ?_
  obtain ⟨hi_1, h⟩ := h
  refine zq_a_iast (D := D) hx hb hK hP hD hS 1 0 rfl rfl hi_1 rfl zd_Operands_addField_9 (fun H locs hP hD hS => ?_)
  have hP : va_P D vwCl (W_Operands_addField kT ad ocn ofn (upd ofr ofn.toNatClampNeg p0) oto osg) H := hP
  have hD : va_D A (W_Operands_addField kT ad ocn ofn (upd ofr ofn.toNatClampNeg p0) oto osg) := hD
  refine lv_aload_n hx hb zd_Operands_addField_10 rfl (lv_at hl 0 rfl) ?_
  refine va_get (D := D) (ci := 2) (v := .ref (ad 10)) (C := zR_Operands) (T := zF_Operands) (N := 7) hx hb ht zi_Operands hown hK hP 0 rfl rfl 3 (by decide) (ht _ zw_141) (fun _ h9 => h9) rfl zd_Operands_addField_11 ?_
  refine lv_aload_n hx hb zd_Operands_addField_14 rfl (lv_at hl 0 rfl) ?_
  refine va_get (D := D) (ci := 2) (v := .int ofn) (C := zR_Operands) (T := zF_Operands) (N := 7) hx hb ht zi_Operands hown hK hP 0 rfl rfl 6 (by decide) (ht _ zw_140) (fun _ h9 => h9) rfl zd_Operands_addField_15 ?_
  refine lv_iload_n hx hb zd_Operands_addField_18 rfl (lv_at hl 2 rfl) ?_
  obtain ⟨hi_2, h⟩ := h
  refine zq_a_iast (D := D) hx hb hK hP hD hS 2 0 rfl rfl hi_2 rfl zd_Operands_addField_19 (fun H locs hP hD hS => ?_)
  have hP : va_P D vwCl (W_Operands_addField kT ad ocn ofn (upd ofr ofn.toNatClampNeg p0) (upd oto ofn.toNatClampNeg p1) osg) H := hP
  have hD : va_D A (W_Operands_addField kT ad ocn ofn (upd ofr ofn.toNatClampNeg p0) (upd oto ofn.toNatClampNeg p1) osg) := hD
  refine lv_aload_n hx hb zd_Operands_addField_20 rfl (lv_at hl 0 rfl) ?_
  refine va_get (D := D) (ci := 2) (v := .ref (ad 11)) (C := zR_Operands) (T := zF_Operands) (N := 7) hx hb ht zi_Operands hown hK hP 0 rfl rfl 4 (by decide) (ht _ zw_142) (fun _ h9 => h9) rfl zd_Operands_addField_21 ?_
  refine lv_aload_n hx hb zd_Operands_addField_24 rfl (lv_at hl 0 rfl) ?_
  refine va_get (D := D) (ci := 2) (v := .int ofn) (C := zR_Operands) (T := zF_Operands) (N := 7) hx hb ht zi_Operands hown hK hP 0 rfl rfl 6 (by decide) (ht _ zw_140) (fun _ h9 => h9) rfl zd_Operands_addField_25 ?_
  refine lv_iload_n hx hb zd_Operands_addField_28 rfl (lv_at hl 3 rfl) ?_
  obtain ⟨hi_3, h⟩ := h
  refine zq_a_zast (D := D) hx hb hK hP hD hS 3 2 rfl rfl hi_3 rfl zd_Operands_addField_29 (fun H locs hP hD hS => ?_)
  have hP : va_P D vwCl (W_Operands_addField kT ad ocn ofn (upd ofr ofn.toNatClampNeg p0) (upd oto ofn.toNatClampNeg p1) (upd osg ofn.toNatClampNeg (vp_nar .boolean p2))) H := hP
  have hD : va_D A (W_Operands_addField kT ad ocn ofn (upd ofr ofn.toNatClampNeg p0) (upd oto ofn.toNatClampNeg p1) (upd osg ofn.toNatClampNeg (vp_nar .boolean p2))) := hD
  refine lv_aload_n hx hb zd_Operands_addField_30 rfl (lv_at hl 0 rfl) ?_
  refine lv_dup hx hb zd_Operands_addField_31 rfl ?_
  refine va_get (D := D) (ci := 2) (v := .int ofn) (C := zR_Operands) (T := zF_Operands) (N := 7) hx hb ht zi_Operands hown hK hP 0 rfl rfl 6 (by decide) (ht _ zw_140) (fun _ h9 => h9) rfl zd_Operands_addField_32 ?_
  refine lv_iconst (v := 1) hx hb zd_Operands_addField_35 (by decide) ?_
  refine lv_iadd hx hb zd_Operands_addField_36 ?_
  refine va_put (D := D) (ci := 2) (v := .int (ofn + 1)) (ty := .int) (C := zR_Operands) (T := zF_Operands) (N := 7) hx hb ht zi_Operands zt_Operands zt_Operands_ok zn_Operands hown hK hP hD hS 0 rfl rfl 6 (by decide) (ht _ zw_140) (fun _ h9 => h9) rfl (by decide +kernel) rfl rfl (Nat.le_of_ble_eq_true rfl) zd_Operands_addField_37 (fun H locs hP hD hS => ?_)
  have hP : va_P D vwCl (W_Operands_addField kT ad ocn (ofn + 1) (upd ofr ofn.toNatClampNeg p0) (upd oto ofn.toNatClampNeg p1) (upd osg ofn.toNatClampNeg (vp_nar .boolean p2))) H := hP
  have hD : va_D A (W_Operands_addField kT ad ocn (ofn + 1) (upd ofr ofn.toNatClampNeg p0) (upd oto ofn.toNatClampNeg p1) (upd osg ofn.toNatClampNeg (vp_nar .boolean p2))) := hD
  refine lv_bipush (v := 64) hx hb zd_Operands_addField_40 (by decide) ?_
  refine lv_aload_n hx hb zd_Operands_addField_42 rfl (lv_at hl 0 rfl) ?_
  refine va_get (D := D) (ci := 2) (v := .int (ofn + 1)) (C := zR_Operands) (T := zF_Operands) (N := 7) hx hb ht zi_Operands hown hK hP 0 rfl rfl 6 (by decide) (ht _ zw_140) (fun _ h9 => h9) rfl zd_Operands_addField_43 ?_
  refine lv_iadd hx hb zd_Operands_addField_46 ?_
  refine lv_iconst (v := 1) hx hb zd_Operands_addField_47 (by decide) ?_
  refine lv_isub hx hb zd_Operands_addField_48 ?_
  exact hret ((64 + (ofn + 1)) - 1)  _ H locs 49 ls ⟨(ofn + 1), (upd ofr ofn.toNatClampNeg p0), (upd oto ofn.toNatClampNeg p1), (upd osg ofn.toNatClampNeg (vp_nar .boolean p2)), rfl, h⟩ hP rfl hS zd_Operands_addField_49
abbrev W_Operands_has (kT : Nat → ClassId) (ad : Nat → Nat) (rn : Int32) (ocn : Int32) (ofn : Int32) : va_W := [(ad 1, .inr (0, [.ref (ad 2), .ref (ad 3), .ref (ad 4), .int rn])), (ad 7, .inr (2, [.ref (ad 1), .ref (ad 8), .ref (ad 9), .ref (ad 10), .ref (ad 11), .int ocn, .int ofn]))]
abbrev A_Operands_has (ad : Nat → Nat) : List Nat := [ad 1, ad 7]
def wp_Operands_has (rn : Int32) (ocn : Int32) (ofn : Int32) (p0 : Int32) (post : Int32 → Prop) : Prop := (if p0 < 64 then (if p0 < 32 then wp_Registers_has rn p0 (fun r_3 => zq_bz r_3 ∧ post r_3 ) else (if ocn ≤ (p0 - 32) then post 0  else post 1 )) else (if ofn ≤ (p0 - 64) then post 0  else post 1 ))
set_option maxHeartbeats 4000000 in
set_option maxRecDepth 100000 in
theorem c_Operands_has (l : Launch) (D : va_G) (kT : Nat → ClassId) (ad : Nat → Nat) (rn : Int32) (ocn : Int32) (ofn : Int32) (p0 : Int32) (post : Int32 → Prop) (h : wp_Operands_has rn ocn ofn p0 post) : zq_Mi l zy_Operands_has zs_Operands_has ({ frames := 1, cells := 0, slots := 0, locals := 21 }) D kT [.ref (ad 7), .int p0] (W_Operands_has kT ad rn ocn ofn) (fun r w' => w' = (W_Operands_has kT ad rn ocn ofn) ∧ post r ) := by
  refine zq_Mz_of (adl := (A_Operands_has ad)) (cc := zb_Operands_has) (maxL := 2) (own := zR_Operands) rfl (by decide) rfl rfl (Nat.le_of_ble_eq_true rfl) ?_
  intro p e s m AV below meth c A QQ H locs ls hx hb hml hown ht hE hA hret hP hD hS hl
  have hK := hE.1
  have hl : lv_has ls 2 [(0, .ref (ad 7)), (1, .int p0)] := hl
  refine lv_iload_n hx hb zd_Operands_has_0 rfl (lv_at hl 1 rfl) ?_
  refine lv_bipush (v := 64) hx hb zd_Operands_has_1 (by decide) ?_
  refine lv_icmp_lt (tgt := 23) hx hb zd_Operands_has_3 (by decide) (fun c_1 => ?_) (fun c_1 => ?_)
  · have h := zq_it c_1 h
    refine lv_iload_n hx hb zd_Operands_has_23 rfl (lv_at hl 1 rfl) ?_
    refine lv_bipush (v := 32) hx hb zd_Operands_has_24 (by decide) ?_
    refine lv_icmp_lt (tgt := 46) hx hb zd_Operands_has_26 (by decide) (fun c_2 => ?_) (fun c_2 => ?_)
    · have h := zq_it c_2 h
      refine lv_aload_n hx hb zd_Operands_has_46 rfl (lv_at hl 0 rfl) ?_
      refine va_get (D := D) (ci := 2) (v := .ref (ad 1)) (C := zR_Operands) (T := zF_Operands) (N := 7) hx hb ht zi_Operands hown hK hP 1 rfl rfl 0 (by decide) (ht _ zw_143) (fun _ h9 => h9) rfl zd_Operands_has_47 ?_
      refine lv_iload_n hx hb zd_Operands_has_50 rfl (lv_at hl 1 rfl) ?_
      refine zq_c_Vi (rest := []) (adl := (A_Operands_has ad)) (wr := [(ad 7, .inr (2, [.ref (ad 1), .ref (ad 8), .ref (ad 9), .ref (ad 10), .ref (ad 11), .int ocn, .int ofn]))]) ⟨hx, hb, hml, hown, ht⟩ (c_Registers_has l D kT ad rn p0 _ h) (cwV 1 ht (zq_gV zw_144 zw_145 zw_146 zw_128 zw_147) rfl rfl rfl zh_Registers_has ⟨Nat.le_of_ble_eq_true rfl, Nat.le_of_ble_eq_true rfl⟩) hE hP hD hS hA [0] [1] 2 rfl (by decide +kernel) rfl (by decide +kernel) rfl rfl 0 rfl rfl rfl rfl hl.1 (Nat.le_of_ble_eq_true rfl) rfl zd_Operands_has_51 ⟨Nat.zero_le _, Nat.zero_le _⟩ (fun r_3 w1 H locs hw hJ hS => ?_)
      obtain ⟨rfl, h⟩ := hw
      obtain ⟨hP, hD⟩ := hJ (W_Operands_has kT ad rn ocn ofn) rfl rfl rfl
      obtain ⟨hb_4, h⟩ := h
      exact hret r_3 (zq_bzn hb_4) _ H locs 54 ls ⟨rfl, h⟩ hP rfl hS zd_Operands_has_54
    · have h := zq_if c_2 h
      refine lv_iload_n hx hb zd_Operands_has_29 rfl (lv_at hl 1 rfl) ?_
      refine lv_bipush (v := 32) hx hb zd_Operands_has_30 (by decide) ?_
      refine lv_isub hx hb zd_Operands_has_32 ?_
      refine lv_aload_n hx hb zd_Operands_has_33 rfl (lv_at hl 0 rfl) ?_
      refine va_get (D := D) (ci := 2) (v := .int ocn) (C := zR_Operands) (T := zF_Operands) (N := 7) hx hb ht zi_Operands hown hK hP 1 rfl rfl 5 (by decide) (ht _ zw_138) (fun _ h9 => h9) rfl zd_Operands_has_34 ?_
      refine lv_icmp_ge (tgt := 44) hx hb zd_Operands_has_37 (by decide) (fun c_5 => ?_) (fun c_5 => ?_)
      · have h := zq_it c_5 h
        refine lv_iconst (v := 0) hx hb zd_Operands_has_44 (by decide) ?_
        exact hret 0 rfl _ H locs 45 ls ⟨rfl, h⟩ hP rfl hS zd_Operands_has_45
      · have h := zq_if c_5 h
        refine lv_iconst (v := 1) hx hb zd_Operands_has_40 (by decide) ?_
        refine lv_goto (tgt := 45) hx hb zd_Operands_has_41 (by decide) ?_
        exact hret 1 rfl _ H locs 45 ls ⟨rfl, h⟩ hP rfl hS zd_Operands_has_45
  · have h := zq_if c_1 h
    refine lv_iload_n hx hb zd_Operands_has_6 rfl (lv_at hl 1 rfl) ?_
    refine lv_bipush (v := 64) hx hb zd_Operands_has_7 (by decide) ?_
    refine lv_isub hx hb zd_Operands_has_9 ?_
    refine lv_aload_n hx hb zd_Operands_has_10 rfl (lv_at hl 0 rfl) ?_
    refine va_get (D := D) (ci := 2) (v := .int ofn) (C := zR_Operands) (T := zF_Operands) (N := 7) hx hb ht zi_Operands hown hK hP 1 rfl rfl 6 (by decide) (ht _ zw_140) (fun _ h9 => h9) rfl zd_Operands_has_11 ?_
    refine lv_icmp_ge (tgt := 21) hx hb zd_Operands_has_14 (by decide) (fun c_6 => ?_) (fun c_6 => ?_)
    · have h := zq_it c_6 h
      refine lv_iconst (v := 0) hx hb zd_Operands_has_21 (by decide) ?_
      exact hret 0 rfl _ H locs 22 ls ⟨rfl, h⟩ hP rfl hS zd_Operands_has_22
    · have h := zq_if c_6 h
      refine lv_iconst (v := 1) hx hb zd_Operands_has_17 (by decide) ?_
      refine lv_goto (tgt := 22) hx hb zd_Operands_has_18 (by decide) ?_
      exact hret 1 rfl _ H locs 22 ls ⟨rfl, h⟩ hP rfl hS zd_Operands_has_22
abbrev W_Operands_readField (kT : Nat → ClassId) (ad : Nat → Nat) (ocn : Int32) (ofn : Int32) (ofr : Nat → Int32) (oto : Nat → Int32) (osg : Nat → Int32) : va_W := [(ad 7, .inr (2, [.ref (ad 1), .ref (ad 8), .ref (ad 9), .ref (ad 10), .ref (ad 11), .int ocn, .int ofn])), (ad 9, .inl (kT 0, 16, .inl ofr)), (ad 10, .inl (kT 0, 16, .inl oto)), (ad 11, .inl (kT 2, 16, .inl osg))]
abbrev A_Operands_readField (ad : Nat → Nat) : List Nat := [ad 7, ad 9, ad 10, ad 11]
def wp_Operands_readField (ocn : Int32) (ofn : Int32) (ofr : Nat → Int32) (oto : Nat → Int32) (osg : Nat → Int32) (p0 : Int32) (p1 : Int32) (post : Int64 → Prop) : Prop := vp_in p0 16 ∧ vp_in p0 16 ∧ vp_in p0 16 ∧ (if (osg p0.toNatClampNeg) = 0 then post (zq_j_lushr (zq_j_lshl (zq_j_i2l p1) (63 - (oto p0.toNatClampNeg))) ((63 - (oto p0.toNatClampNeg)) + (ofr p0.toNatClampNeg)))  else post (zq_j_lshr (zq_j_lshl (zq_j_i2l p1) (63 - (oto p0.toNatClampNeg))) ((63 - (oto p0.toNatClampNeg)) + (ofr p0.toNatClampNeg))) )
set_option maxHeartbeats 4000000 in
set_option maxRecDepth 100000 in
theorem c_Operands_readField (l : Launch) (D : va_G) (kT : Nat → ClassId) (ad : Nat → Nat) (ocn : Int32) (ofn : Int32) (ofr : Nat → Int32) (oto : Nat → Int32) (osg : Nat → Int32) (p0 : Int32) (p1 : Int32) (post : Int64 → Prop) (h : wp_Operands_readField ocn ofn ofr oto osg p0 p1 post) : zq_Ml l zy_Operands_readField zs_Operands_readField ({ frames := 0, cells := 0, slots := 0, locals := 0 }) D kT [.ref (ad 7), .int p0, .int p1] (W_Operands_readField kT ad ocn ofn ofr oto osg) (fun r w' => w' = (W_Operands_readField kT ad ocn ofn ofr oto osg) ∧ post r ) := by
  refine zq_Ml_of (adl := (A_Operands_readField ad)) (cc := zb_Operands_readField) (maxL := 7) (own := zR_Operands) rfl (by decide) rfl rfl (Nat.le_of_ble_eq_true rfl) ?_
  intro p e s m AV below meth c A QQ H locs ls hx hb hml hown ht hE hA hret hP hD hS hl
  have hK := hE.1
  have hl : lv_has ls 7 [(0, .ref (ad 7)), (1, .int p0), (2, .int p1)] := hl
  refine lv_bipush (v := 63) hx hb zd_Operands_readField_0 (by decide) ?_
  refine lv_aload_n hx hb zd_Operands_readField_2 rfl (lv_at hl 0 rfl) ?_
  refine va_get (D := D) (ci := 2) (v := .ref (ad 10)) (C := zR_Operands) (T := zF_Operands) (N := 7) hx hb ht zi_Operands hown hK hP 0 rfl rfl 3 (by decide) (ht _ zw_141) (fun _ h9 => h9) rfl zd_Operands_readField_3 ?_
  refine lv_iload_n hx hb zd_Operands_readField_6 rfl (lv_at hl 1 rfl) ?_
  obtain ⟨hi_1, h⟩ := h
  refine zq_a_iald (D := D) hx hb hK hP 2 0 rfl rfl hi_1 rfl zd_Operands_readField_7 ?_
  refine lv_isub hx hb zd_Operands_readField_8 ?_
  refine lv_istore_n (lv' := [(3, .int (63 - (oto p0.toNatClampNeg))), (0, .ref (ad 7)), (1, .int p0), (2, .int p1)]) hx hb zd_Operands_readField_9 rfl hl (by decide) rfl (fun ls hl => ?_)
  refine lv_iload_n hx hb zd_Operands_readField_10 rfl (lv_at hl 0 rfl) ?_
  refine lv_aload_n hx hb zd_Operands_readField_11 rfl (lv_at hl 1 rfl) ?_
  refine va_get (D := D) (ci := 2) (v := .ref (ad 9)) (C := zR_Operands) (T := zF_Operands) (N := 7) hx hb ht zi_Operands hown hK hP 0 rfl rfl 2 (by decide) (ht _ zw_139) (fun _ h9 => h9) rfl zd_Operands_readField_12 ?_
  refine lv_iload_n hx hb zd_Operands_readField_15 rfl (lv_at hl 2 rfl) ?_
  obtain ⟨hi_2, h⟩ := h
  refine zq_a_iald (D := D) hx hb hK hP 1 0 rfl rfl hi_2 rfl zd_Operands_readField_16 ?_
  refine lv_iadd hx hb zd_Operands_readField_17 ?_
  refine lv_istore (lv' := [(4, .int ((63 - (oto p0.toNatClampNeg)) + (ofr p0.toNatClampNeg))), (3, .int (63 - (oto p0.toNatClampNeg))), (0, .ref (ad 7)), (1, .int p0), (2, .int p1)]) hx hb zd_Operands_readField_18 hl (by decide) rfl (fun ls hl => ?_)
  refine lv_iload_n hx hb zd_Operands_readField_20 rfl (lv_at hl 4 rfl) ?_
  refine lv_i2l (v := (zq_j_i2l p1)) hx hb zd_Operands_readField_21 rfl ?_
  refine lv_iload_n hx hb zd_Operands_readField_22 rfl (lv_at hl 1 rfl) ?_
  refine lv_lshl (v := (zq_j_lshl (zq_j_i2l p1) (63 - (oto p0.toNatClampNeg)))) hx hb zd_Operands_readField_23 rfl ?_
  refine lv_lstore (lv' := [(5, .long (zq_j_lshl (zq_j_i2l p1) (63 - (oto p0.toNatClampNeg)))), (4, .int ((63 - (oto p0.toNatClampNeg)) + (ofr p0.toNatClampNeg))), (3, .int (63 - (oto p0.toNatClampNeg))), (0, .ref (ad 7)), (1, .int p0), (2, .int p1)]) hx hb zd_Operands_readField_24 hl (by decide) rfl (fun ls hl => ?_)
  refine lv_aload_n hx hb zd_Operands_readField_26 rfl (lv_at hl 3 rfl) ?_
  refine va_get (D := D) (ci := 2) (v := .ref (ad 11)) (C := zR_Operands) (T := zF_Operands) (N := 7) hx hb ht zi_Operands hown hK hP 0 rfl rfl 4 (by decide) (ht _ zw_142) (fun _ h9 => h9) rfl zd_Operands_readField_27 ?_
  refine lv_iload_n hx hb zd_Operands_readField_30 rfl (lv_at hl 4 rfl) ?_
  obtain ⟨hi_3, h⟩ := h
  refine zq_a_zald (D := D) hx hb hK hP 3 2 rfl rfl hi_3 rfl zd_Operands_readField_31 ?_
  refine lv_if_eq (tgt := 43) hx hb zd_Operands_readField_32 (by decide) (fun c_4 => ?_) (fun c_4 => ?_)
  · have h := zq_it c_4 h
    refine lv_lload hx hb zd_Operands_readField_43 (lv_at hl 0 rfl) ?_
    refine lv_iload hx hb zd_Operands_readField_45 (lv_at hl 1 rfl) ?_
    refine lv_lushr (v := (zq_j_lushr (zq_j_lshl (zq_j_i2l p1) (63 - (oto p0.toNatClampNeg))) ((63 - (oto p0.toNatClampNeg)) + (ofr p0.toNatClampNeg)))) hx hb zd_Operands_readField_47 rfl ?_
    exact hret (zq_j_lushr (zq_j_lshl (zq_j_i2l p1) (63 - (oto p0.toNatClampNeg))) ((63 - (oto p0.toNatClampNeg)) + (ofr p0.toNatClampNeg)))  _ H locs 48 ls ⟨rfl, h⟩ hP rfl hS zd_Operands_readField_48
  · have h := zq_if c_4 h
    refine lv_lload hx hb zd_Operands_readField_35 (lv_at hl 0 rfl) ?_
    refine lv_iload hx hb zd_Operands_readField_37 (lv_at hl 1 rfl) ?_
    refine lv_lshr (v := (zq_j_lshr (zq_j_lshl (zq_j_i2l p1) (63 - (oto p0.toNatClampNeg))) ((63 - (oto p0.toNatClampNeg)) + (ofr p0.toNatClampNeg)))) hx hb zd_Operands_readField_39 rfl ?_
    refine lv_goto (tgt := 48) hx hb zd_Operands_readField_40 (by decide) ?_
    exact hret (zq_j_lshr (zq_j_lshl (zq_j_i2l p1) (63 - (oto p0.toNatClampNeg))) ((63 - (oto p0.toNatClampNeg)) + (ofr p0.toNatClampNeg)))  _ H locs 48 ls ⟨rfl, h⟩ hP rfl hS zd_Operands_readField_48
abbrev W_Operands_read (kT : Nat → ClassId) (ad : Nat → Nat) (rn : Int32) (rv : Nat → Int64) (ocn : Int32) (ofn : Int32) (oc : Nat → Int64) (ofr : Nat → Int32) (oto : Nat → Int32) (osg : Nat → Int32) : va_W := [(ad 1, .inr (0, [.ref (ad 2), .ref (ad 3), .ref (ad 4), .int rn])), (ad 3, .inl (kT 1, 24, .inr (.inl rv))), (ad 7, .inr (2, [.ref (ad 1), .ref (ad 8), .ref (ad 9), .ref (ad 10), .ref (ad 11), .int ocn, .int ofn])), (ad 8, .inl (kT 1, 16, .inr (.inl oc))), (ad 9, .inl (kT 0, 16, .inl ofr)), (ad 10, .inl (kT 0, 16, .inl oto)), (ad 11, .inl (kT 2, 16, .inl osg))]
abbrev A_Operands_read (ad : Nat → Nat) : List Nat := [ad 1, ad 3, ad 7, ad 8, ad 9, ad 10, ad 11]
def wp_Operands_read (rn : Int32) (rv : Nat → Int64) (ocn : Int32) (ofn : Int32) (oc : Nat → Int64) (ofr : Nat → Int32) (oto : Nat → Int32) (osg : Nat → Int32) (p0 : Int32) (p1 : Int32) (post : Int64 → Prop) : Prop := (if p0 < 64 then (if p0 < 32 then wp_Registers_valueOf rn rv p0 (fun r_3 => post r_3 ) else vp_in (p0 - 32) 16 ∧ post (oc ((p0 - 32)).toNatClampNeg) ) else wp_Operands_readField ocn ofn ofr oto osg (p0 - 64) p1 (fun r_5 => post r_5 ))
set_option maxHeartbeats 4000000 in
set_option maxRecDepth 100000 in
theorem c_Operands_read (l : Launch) (D : va_G) (kT : Nat → ClassId) (ad : Nat → Nat) (rn : Int32) (rv : Nat → Int64) (ocn : Int32) (ofn : Int32) (oc : Nat → Int64) (ofr : Nat → Int32) (oto : Nat → Int32) (osg : Nat → Int32) (p0 : Int32) (p1 : Int32) (post : Int64 → Prop) (h : wp_Operands_read rn rv ocn ofn oc ofr oto osg p0 p1 post) : zq_Ml l zy_Operands_read zs_Operands_read ({ frames := 1, cells := 0, slots := 0, locals := 26 }) D kT [.ref (ad 7), .int p0, .int p1] (W_Operands_read kT ad rn rv ocn ofn oc ofr oto osg) (fun r w' => w' = (W_Operands_read kT ad rn rv ocn ofn oc ofr oto osg) ∧ post r ) := by
  refine zq_Ml_of (adl := (A_Operands_read ad)) (cc := zb_Operands_read) (maxL := 3) (own := zR_Operands) rfl (by decide) rfl rfl (Nat.le_of_ble_eq_true rfl) ?_
  intro p e s m AV below meth c A QQ H locs ls hx hb hml hown ht hE hA hret hP hD hS hl
  have hK := hE.1
  have hl : lv_has ls 3 [(0, .ref (ad 7)), (1, .int p0), (2, .int p1)] := hl
  refine lv_iload_n hx hb zd_Operands_read_0 rfl (lv_at hl 1 rfl) ?_
  refine lv_bipush (v := 64) hx hb zd_Operands_read_1 (by decide) ?_
  refine lv_icmp_lt (tgt := 16) hx hb zd_Operands_read_3 (by decide) (fun c_1 => ?_) (fun c_1 => ?_)
  · have h := zq_it c_1 h
    refine lv_iload_n hx hb zd_Operands_read_16 rfl (lv_at hl 1 rfl) ?_
    refine lv_bipush (v := 32) hx hb zd_Operands_read_17 (by decide) ?_
    refine lv_icmp_lt (tgt := 32) hx hb zd_Operands_read_19 (by decide) (fun c_2 => ?_) (fun c_2 => ?_)
    · have h := zq_it c_2 h
      refine lv_aload_n hx hb zd_Operands_read_32 rfl (lv_at hl 0 rfl) ?_
      refine va_get (D := D) (ci := 2) (v := .ref (ad 1)) (C := zR_Operands) (T := zF_Operands) (N := 7) hx hb ht zi_Operands hown hK hP 2 rfl rfl 0 (by decide) (ht _ zw_143) (fun _ h9 => h9) rfl zd_Operands_read_33 ?_
      refine lv_iload_n hx hb zd_Operands_read_36 rfl (lv_at hl 1 rfl) ?_
      refine zq_c_Vl (rest := []) (adl := (A_Operands_read ad)) (wr := [(ad 7, .inr (2, [.ref (ad 1), .ref (ad 8), .ref (ad 9), .ref (ad 10), .ref (ad 11), .int ocn, .int ofn])), (ad 8, .inl (kT 1, 16, .inr (.inl oc))), (ad 9, .inl (kT 0, 16, .inl ofr)), (ad 10, .inl (kT 0, 16, .inl oto)), (ad 11, .inl (kT 2, 16, .inl osg))]) ⟨hx, hb, hml, hown, ht⟩ (c_Registers_valueOf l D kT ad rn rv p0 _ h) (cwV 1 ht (zq_gV zw_148 zw_149 zw_150 zw_128 zw_151) rfl rfl rfl zh_Registers_valueOf ⟨Nat.le_of_ble_eq_true rfl, Nat.le_of_ble_eq_true rfl⟩) hE hP hD hS hA [0, 1] [2, 3, 4, 5, 6] 7 rfl (by decide +kernel) rfl (by decide +kernel) rfl rfl 0 rfl rfl rfl rfl hl.1 (Nat.le_of_ble_eq_true rfl) rfl zd_Operands_read_37 ⟨Nat.zero_le _, Nat.zero_le _⟩ (fun r_3 w1 H locs hw hJ hS => ?_)
      obtain ⟨rfl, h⟩ := hw
      obtain ⟨hP, hD⟩ := hJ (W_Operands_read kT ad rn rv ocn ofn oc ofr oto osg) rfl rfl rfl
      exact hret r_3  _ H locs 40 ls ⟨rfl, h⟩ hP rfl hS zd_Operands_read_40
    · have h := zq_if c_2 h
      refine lv_aload_n hx hb zd_Operands_read_22 rfl (lv_at hl 0 rfl) ?_
      refine va_get (D := D) (ci := 2) (v := .ref (ad 8)) (C := zR_Operands) (T := zF_Operands) (N := 7) hx hb ht zi_Operands hown hK hP 2 rfl rfl 1 (by decide) (ht _ zw_137) (fun _ h9 => h9) rfl zd_Operands_read_23 ?_
      refine lv_iload_n hx hb zd_Operands_read_26 rfl (lv_at hl 1 rfl) ?_
      refine lv_bipush (v := 32) hx hb zd_Operands_read_27 (by decide) ?_
      refine lv_isub hx hb zd_Operands_read_29 ?_
      obtain ⟨hi_4, h⟩ := h
      refine zq_a_lald (D := D) hx hb hK hP 3 1 rfl rfl hi_4 rfl zd_Operands_read_30 ?_
      exact hret (oc ((p0 - 32)).toNatClampNeg)  _ H locs 31 ls ⟨rfl, h⟩ hP rfl hS zd_Operands_read_31
  · have h := zq_if c_1 h
    refine lv_aload_n hx hb zd_Operands_read_6 rfl (lv_at hl 0 rfl) ?_
    refine lv_iload_n hx hb zd_Operands_read_7 rfl (lv_at hl 1 rfl) ?_
    refine lv_bipush (v := 64) hx hb zd_Operands_read_8 (by decide) ?_
    refine lv_isub hx hb zd_Operands_read_10 ?_
    refine lv_iload_n hx hb zd_Operands_read_11 rfl (lv_at hl 2 rfl) ?_
    refine zq_c_Vl (rest := []) (adl := (A_Operands_read ad)) (wr := [(ad 1, .inr (0, [.ref (ad 2), .ref (ad 3), .ref (ad 4), .int rn])), (ad 3, .inl (kT 1, 24, .inr (.inl rv))), (ad 8, .inl (kT 1, 16, .inr (.inl oc)))]) ⟨hx, hb, hml, hown, ht⟩ (c_Operands_readField l D kT ad ocn ofn ofr oto osg (p0 - 64) p1 _ h) (cwV 2 ht (zq_gV zw_152 zw_153 zw_154 zw_155 zw_156) rfl rfl rfl zh_Operands_readField ⟨Nat.le_of_ble_eq_true rfl, Nat.le_of_ble_eq_true rfl⟩) hE hP hD hS hA [2, 4, 5, 6] [0, 1, 3] 7 rfl (by decide +kernel) rfl (by decide +kernel) rfl rfl 0 rfl rfl rfl rfl hl.1 (Nat.le_of_ble_eq_true rfl) rfl zd_Operands_read_12 ⟨Nat.zero_le _, Nat.zero_le _⟩ (fun r_5 w1 H locs hw hJ hS => ?_)
    obtain ⟨rfl, h⟩ := hw
    obtain ⟨hP, hD⟩ := hJ (W_Operands_read kT ad rn rv ocn ofn oc ofr oto osg) rfl rfl rfl
    exact hret r_5  _ H locs 15 ls ⟨rfl, h⟩ hP rfl hS zd_Operands_read_15
abbrev W_Operands_isMarked (kT : Nat → ClassId) (ad : Nat → Nat) (rn : Int32) (rm : Nat → Int32) (ocn : Int32) (ofn : Int32) : va_W := [(ad 1, .inr (0, [.ref (ad 2), .ref (ad 3), .ref (ad 4), .int rn])), (ad 4, .inl (kT 2, 24, .inl rm)), (ad 7, .inr (2, [.ref (ad 1), .ref (ad 8), .ref (ad 9), .ref (ad 10), .ref (ad 11), .int ocn, .int ofn]))]
abbrev A_Operands_isMarked (ad : Nat → Nat) : List Nat := [ad 1, ad 4, ad 7]
def wp_Operands_isMarked (rn : Int32) (rm : Nat → Int32) (ocn : Int32) (ofn : Int32) (p0 : Int32) (post : Int32 → Prop) : Prop := (if 32 ≤ p0 then post 0  else wp_Registers_isMarked rn rm p0 (fun r_2 => (if r_2 = 0 then post 0  else post 1 )))
set_option maxHeartbeats 4000000 in
set_option maxRecDepth 100000 in
theorem c_Operands_isMarked (l : Launch) (D : va_G) (kT : Nat → ClassId) (ad : Nat → Nat) (rn : Int32) (rm : Nat → Int32) (ocn : Int32) (ofn : Int32) (p0 : Int32) (post : Int32 → Prop) (h : wp_Operands_isMarked rn rm ocn ofn p0 post) : zq_Mi l zy_Operands_isMarked zs_Operands_isMarked ({ frames := 1, cells := 0, slots := 0, locals := 21 }) D kT [.ref (ad 7), .int p0] (W_Operands_isMarked kT ad rn rm ocn ofn) (fun r w' => w' = (W_Operands_isMarked kT ad rn rm ocn ofn) ∧ post r ) := by
  refine zq_Mz_of (adl := (A_Operands_isMarked ad)) (cc := zb_Operands_isMarked) (maxL := 2) (own := zR_Operands) rfl (by decide) rfl rfl (Nat.le_of_ble_eq_true rfl) ?_
  intro p e s m AV below meth c A QQ H locs ls hx hb hml hown ht hE hA hret hP hD hS hl
  have hK := hE.1
  have hl : lv_has ls 2 [(0, .ref (ad 7)), (1, .int p0)] := hl
  refine lv_iload_n hx hb zd_Operands_isMarked_0 rfl (lv_at hl 1 rfl) ?_
  refine lv_bipush (v := 32) hx hb zd_Operands_isMarked_1 (by decide) ?_
  refine lv_icmp_ge (tgt := 21) hx hb zd_Operands_isMarked_3 (by decide) (fun c_1 => ?_) (fun c_1 => ?_)
  · have h := zq_it c_1 h
    refine lv_iconst (v := 0) hx hb zd_Operands_isMarked_21 (by decide) ?_
    exact hret 0 rfl _ H locs 22 ls ⟨rfl, h⟩ hP rfl hS zd_Operands_isMarked_22
  · have h := zq_if c_1 h
    refine lv_aload_n hx hb zd_Operands_isMarked_6 rfl (lv_at hl 0 rfl) ?_
    refine va_get (D := D) (ci := 2) (v := .ref (ad 1)) (C := zR_Operands) (T := zF_Operands) (N := 7) hx hb ht zi_Operands hown hK hP 2 rfl rfl 0 (by decide) (ht _ zw_143) (fun _ h9 => h9) rfl zd_Operands_isMarked_7 ?_
    refine lv_iload_n hx hb zd_Operands_isMarked_10 rfl (lv_at hl 1 rfl) ?_
    refine zq_c_Vi (rest := []) (adl := (A_Operands_isMarked ad)) (wr := [(ad 7, .inr (2, [.ref (ad 1), .ref (ad 8), .ref (ad 9), .ref (ad 10), .ref (ad 11), .int ocn, .int ofn]))]) ⟨hx, hb, hml, hown, ht⟩ (c_Registers_isMarked l D kT ad rn rm p0 _ h) (cwV 1 ht (zq_gV zw_157 zw_158 zw_159 zw_128 zw_160) rfl rfl rfl zh_Registers_isMarked ⟨Nat.le_of_ble_eq_true rfl, Nat.le_of_ble_eq_true rfl⟩) hE hP hD hS hA [0, 1] [2] 3 rfl (by decide +kernel) rfl (by decide +kernel) rfl rfl 0 rfl rfl rfl rfl hl.1 (Nat.le_of_ble_eq_true rfl) rfl zd_Operands_isMarked_11 ⟨Nat.zero_le _, Nat.zero_le _⟩ (fun r_2 w1 H locs hw hJ hS => ?_)
    obtain ⟨rfl, h⟩ := hw
    obtain ⟨hP, hD⟩ := hJ (W_Operands_isMarked kT ad rn rm ocn ofn) rfl rfl rfl
    refine lv_if_eq (tgt := 21) hx hb zd_Operands_isMarked_14 (by decide) (fun c_3 => ?_) (fun c_3 => ?_)
    · have h := zq_it c_3 h
      refine lv_iconst (v := 0) hx hb zd_Operands_isMarked_21 (by decide) ?_
      exact hret 0 rfl _ H locs 22 ls ⟨rfl, h⟩ hP rfl hS zd_Operands_isMarked_22
    · have h := zq_if c_3 h
      refine lv_iconst (v := 1) hx hb zd_Operands_isMarked_17 (by decide) ?_
      refine lv_goto (tgt := 22) hx hb zd_Operands_isMarked_18 (by decide) ?_
      exact hret 1 rfl _ H locs 22 ls ⟨rfl, h⟩ hP rfl hS zd_Operands_isMarked_22
end
section
abbrev W_Program_addTransfer (kT : Nat → ClassId) (ad : Nat → Nat) (ptn : Int32) (pin : Int32) (po : Nat → Int32) (pa : Nat → Int32) (pb : Nat → Int32) (pt : Nat → Int32) : va_W := [(ad 12, .inr (3, [.ref (ad 13), .ref (ad 14), .ref (ad 15), .ref (ad 16), .int ptn, .ref (ad 17), .ref (ad 18), .ref (ad 19), .ref (ad 20), .ref (ad 21), .int pin])), (ad 13, .inl (kT 0, 200, .inl po)), (ad 14, .inl (kT 0, 200, .inl pa)), (ad 15, .inl (kT 0, 200, .inl pb)), (ad 16, .inl (kT 0, 200, .inl pt))]
abbrev A_Program_addTransfer (ad : Nat → Nat) : List Nat := [ad 12, ad 13, ad 14, ad 15, ad 16]
def wp_Program_addTransfer (ptn : Int32) (pin : Int32) (po : Nat → Int32) (pa : Nat → Int32) (pb : Nat → Int32) (pt : Nat → Int32) (p0 : Int32) (p1 : Int32) (p2 : Int32) (p3 : Int32) (post : Int32 → Int32 → (Nat → Int32) → (Nat → Int32) → (Nat → Int32) → (Nat → Int32) → Prop) : Prop := vp_in ptn 200 ∧ vp_in ptn 200 ∧ vp_in ptn 200 ∧ vp_in ptn 200 ∧ post (ptn + 1) (ptn + 1) (upd po ptn.toNatClampNeg p0) (upd pa ptn.toNatClampNeg p1) (upd pb ptn.toNatClampNeg p2) (upd pt ptn.toNatClampNeg p3)
set_option maxHeartbeats 4000000 in
set_option maxRecDepth 100000 in
theorem c_Program_addTransfer (l : Launch) (D : va_G) (kT : Nat → ClassId) (ad : Nat → Nat) (ptn : Int32) (pin : Int32) (po : Nat → Int32) (pa : Nat → Int32) (pb : Nat → Int32) (pt : Nat → Int32) (p0 : Int32) (p1 : Int32) (p2 : Int32) (p3 : Int32) (post : Int32 → Int32 → (Nat → Int32) → (Nat → Int32) → (Nat → Int32) → (Nat → Int32) → Prop) (h : wp_Program_addTransfer ptn pin po pa pb pt p0 p1 p2 p3 post) : zq_Mi l zy_Program_addTransfer zs_Program_addTransfer ({ frames := 0, cells := 0, slots := 0, locals := 0 }) D kT [.ref (ad 12), .int p0, .int p1, .int p2, .int p3] (W_Program_addTransfer kT ad ptn pin po pa pb pt) (fun r w' => ∃ (ptn' : Int32) (po' : Nat → Int32) (pa' : Nat → Int32) (pb' : Nat → Int32) (pt' : Nat → Int32), w' = (W_Program_addTransfer kT ad ptn' pin po' pa' pb' pt') ∧ post r ptn' po' pa' pb' pt') := by
  refine zq_Mi_of (adl := (A_Program_addTransfer ad)) (cc := zb_Program_addTransfer) (maxL := 5) (own := zR_Program) rfl (by decide) rfl rfl (Nat.le_of_ble_eq_true rfl) ?_
  intro p e s m AV below meth c A QQ H locs ls hx hb hml hown ht hE hA hret hP hD hS hl
  have hK := hE.1
  have hl : lv_has ls 5 [(0, .ref (ad 12)), (1, .int p0), (2, .int p1), (3, .int p2), (4, .int p3)] := hl
  refine lv_aload_n hx hb zd_Program_addTransfer_0 rfl (lv_at hl 0 rfl) ?_
  refine va_get (D := D) (ci := 3) (v := .ref (ad 13)) (C := zR_Program) (T := zF_Program) (N := 11) hx hb ht zi_Program hown hK hP 0 rfl rfl 0 (by decide) (ht _ zw_161) (fun _ h9 => h9) rfl zd_Program_addTransfer_1 ?_
  refine lv_aload_n hx hb zd_Program_addTransfer_4 rfl (lv_at hl 0 rfl) ?_
  refine va_get (D := D) (ci := 3) (v := .int ptn) (C := zR_Program) (T := zF_Program) (N := 11) hx hb ht zi_Program hown hK hP 0 rfl rfl 4 (by decide) (ht _ zw_162) (fun _ h9 => h9) rfl zd_Program_addTransfer_5 ?_
  refine lv_iload_n hx hb zd_Program_addTransfer_8 rfl (lv_at hl 1 rfl) ?_
  obtain ⟨hi_1, h⟩ := h
  refine zq_a_iast (D := D) hx hb hK hP hD hS 1 0 rfl rfl hi_1 rfl zd_Program_addTransfer_9 (fun H locs hP hD hS => ?_)
  have hP : va_P D vwCl (W_Program_addTransfer kT ad ptn pin (upd po ptn.toNatClampNeg p0) pa pb pt) H := hP
  have hD : va_D A (W_Program_addTransfer kT ad ptn pin (upd po ptn.toNatClampNeg p0) pa pb pt) := hD
  refine lv_aload_n hx hb zd_Program_addTransfer_10 rfl (lv_at hl 0 rfl) ?_
  refine va_get (D := D) (ci := 3) (v := .ref (ad 14)) (C := zR_Program) (T := zF_Program) (N := 11) hx hb ht zi_Program hown hK hP 0 rfl rfl 1 (by decide) (ht _ zw_163) (fun _ h9 => h9) rfl zd_Program_addTransfer_11 ?_
  refine lv_aload_n hx hb zd_Program_addTransfer_14 rfl (lv_at hl 0 rfl) ?_
  refine va_get (D := D) (ci := 3) (v := .int ptn) (C := zR_Program) (T := zF_Program) (N := 11) hx hb ht zi_Program hown hK hP 0 rfl rfl 4 (by decide) (ht _ zw_162) (fun _ h9 => h9) rfl zd_Program_addTransfer_15 ?_
  refine lv_iload_n hx hb zd_Program_addTransfer_18 rfl (lv_at hl 2 rfl) ?_
  obtain ⟨hi_2, h⟩ := h
  refine zq_a_iast (D := D) hx hb hK hP hD hS 2 0 rfl rfl hi_2 rfl zd_Program_addTransfer_19 (fun H locs hP hD hS => ?_)
  have hP : va_P D vwCl (W_Program_addTransfer kT ad ptn pin (upd po ptn.toNatClampNeg p0) (upd pa ptn.toNatClampNeg p1) pb pt) H := hP
  have hD : va_D A (W_Program_addTransfer kT ad ptn pin (upd po ptn.toNatClampNeg p0) (upd pa ptn.toNatClampNeg p1) pb pt) := hD
  refine lv_aload_n hx hb zd_Program_addTransfer_20 rfl (lv_at hl 0 rfl) ?_
  refine va_get (D := D) (ci := 3) (v := .ref (ad 15)) (C := zR_Program) (T := zF_Program) (N := 11) hx hb ht zi_Program hown hK hP 0 rfl rfl 2 (by decide) (ht _ zw_164) (fun _ h9 => h9) rfl zd_Program_addTransfer_21 ?_
  refine lv_aload_n hx hb zd_Program_addTransfer_24 rfl (lv_at hl 0 rfl) ?_
  refine va_get (D := D) (ci := 3) (v := .int ptn) (C := zR_Program) (T := zF_Program) (N := 11) hx hb ht zi_Program hown hK hP 0 rfl rfl 4 (by decide) (ht _ zw_162) (fun _ h9 => h9) rfl zd_Program_addTransfer_25 ?_
  refine lv_iload_n hx hb zd_Program_addTransfer_28 rfl (lv_at hl 3 rfl) ?_
  obtain ⟨hi_3, h⟩ := h
  refine zq_a_iast (D := D) hx hb hK hP hD hS 3 0 rfl rfl hi_3 rfl zd_Program_addTransfer_29 (fun H locs hP hD hS => ?_)
  have hP : va_P D vwCl (W_Program_addTransfer kT ad ptn pin (upd po ptn.toNatClampNeg p0) (upd pa ptn.toNatClampNeg p1) (upd pb ptn.toNatClampNeg p2) pt) H := hP
  have hD : va_D A (W_Program_addTransfer kT ad ptn pin (upd po ptn.toNatClampNeg p0) (upd pa ptn.toNatClampNeg p1) (upd pb ptn.toNatClampNeg p2) pt) := hD
  refine lv_aload_n hx hb zd_Program_addTransfer_30 rfl (lv_at hl 0 rfl) ?_
  refine va_get (D := D) (ci := 3) (v := .ref (ad 16)) (C := zR_Program) (T := zF_Program) (N := 11) hx hb ht zi_Program hown hK hP 0 rfl rfl 3 (by decide) (ht _ zw_165) (fun _ h9 => h9) rfl zd_Program_addTransfer_31 ?_
  refine lv_aload_n hx hb zd_Program_addTransfer_34 rfl (lv_at hl 0 rfl) ?_
  refine va_get (D := D) (ci := 3) (v := .int ptn) (C := zR_Program) (T := zF_Program) (N := 11) hx hb ht zi_Program hown hK hP 0 rfl rfl 4 (by decide) (ht _ zw_162) (fun _ h9 => h9) rfl zd_Program_addTransfer_35 ?_
  refine lv_iload hx hb zd_Program_addTransfer_38 (lv_at hl 4 rfl) ?_
  obtain ⟨hi_4, h⟩ := h
  refine zq_a_iast (D := D) hx hb hK hP hD hS 4 0 rfl rfl hi_4 rfl zd_Program_addTransfer_40 (fun H locs hP hD hS => ?_)
  have hP : va_P D vwCl (W_Program_addTransfer kT ad ptn pin (upd po ptn.toNatClampNeg p0) (upd pa ptn.toNatClampNeg p1) (upd pb ptn.toNatClampNeg p2) (upd pt ptn.toNatClampNeg p3)) H := hP
  have hD : va_D A (W_Program_addTransfer kT ad ptn pin (upd po ptn.toNatClampNeg p0) (upd pa ptn.toNatClampNeg p1) (upd pb ptn.toNatClampNeg p2) (upd pt ptn.toNatClampNeg p3)) := hD
  refine lv_aload_n hx hb zd_Program_addTransfer_41 rfl (lv_at hl 0 rfl) ?_
  refine lv_dup hx hb zd_Program_addTransfer_42 rfl ?_
  refine va_get (D := D) (ci := 3) (v := .int ptn) (C := zR_Program) (T := zF_Program) (N := 11) hx hb ht zi_Program hown hK hP 0 rfl rfl 4 (by decide) (ht _ zw_162) (fun _ h9 => h9) rfl zd_Program_addTransfer_43 ?_
  refine lv_iconst (v := 1) hx hb zd_Program_addTransfer_46 (by decide) ?_
  refine lv_iadd hx hb zd_Program_addTransfer_47 ?_
  refine va_put (D := D) (ci := 3) (v := .int (ptn + 1)) (ty := .int) (C := zR_Program) (T := zF_Program) (N := 11) hx hb ht zi_Program zt_Program zt_Program_ok zn_Program hown hK hP hD hS 0 rfl rfl 4 (by decide) (ht _ zw_162) (fun _ h9 => h9) rfl (by decide +kernel) rfl rfl (Nat.le_of_ble_eq_true rfl) zd_Program_addTransfer_48 (fun H locs hP hD hS => ?_)
  have hP : va_P D vwCl (W_Program_addTransfer kT ad (ptn + 1) pin (upd po ptn.toNatClampNeg p0) (upd pa ptn.toNatClampNeg p1) (upd pb ptn.toNatClampNeg p2) (upd pt ptn.toNatClampNeg p3)) H := hP
  have hD : va_D A (W_Program_addTransfer kT ad (ptn + 1) pin (upd po ptn.toNatClampNeg p0) (upd pa ptn.toNatClampNeg p1) (upd pb ptn.toNatClampNeg p2) (upd pt ptn.toNatClampNeg p3)) := hD
  refine lv_aload_n hx hb zd_Program_addTransfer_51 rfl (lv_at hl 0 rfl) ?_
  refine va_get (D := D) (ci := 3) (v := .int (ptn + 1)) (C := zR_Program) (T := zF_Program) (N := 11) hx hb ht zi_Program hown hK hP 0 rfl rfl 4 (by decide) (ht _ zw_162) (fun _ h9 => h9) rfl zd_Program_addTransfer_52 ?_
  exact hret (ptn + 1)  _ H locs 55 ls ⟨(ptn + 1), (upd po ptn.toNatClampNeg p0), (upd pa ptn.toNatClampNeg p1), (upd pb ptn.toNatClampNeg p2), (upd pt ptn.toNatClampNeg p3), rfl, h⟩ hP rfl hS zd_Program_addTransfer_55
abbrev W_Program_addInstruction (kT : Nat → ClassId) (ad : Nat → Nat) (ptn : Int32) (pin : Int32) (pm : Nat → Int32) (pv : Nat → Int32) (pw : Nat → Int32) (pst : Nat → Int32) (pe : Nat → Int32) : va_W := [(ad 12, .inr (3, [.ref (ad 13), .ref (ad 14), .ref (ad 15), .ref (ad 16), .int ptn, .ref (ad 17), .ref (ad 18), .ref (ad 19), .ref (ad 20), .ref (ad 21), .int pin])), (ad 17, .inl (kT 0, 40, .inl pm)), (ad 18, .inl (kT 0, 40, .inl pv)), (ad 19, .inl (kT 0, 40, .inl pw)), (ad 20, .inl (kT 0, 40, .inl pst)), (ad 21, .inl (kT 0, 40, .inl pe))]
abbrev A_Program_addInstruction (ad : Nat → Nat) : List Nat := [ad 12, ad 17, ad 18, ad 19, ad 20, ad 21]
def wp_Program_addInstruction_60 (ptn : Int32) (pin : Int32) (pm : Nat → Int32) (pv : Nat → Int32) (pw : Nat → Int32) (pst : Nat → Int32) (pe : Nat → Int32) (z0 : Int32) (z1 : Int32) (post : Int32 → Int32 → (Nat → Int32) → (Nat → Int32) → (Nat → Int32) → (Nat → Int32) → (Nat → Int32) → Prop) : Prop := vp_in z1 40 ∧ vp_in pin 40 ∧ post ((pin + 1) - 1) (pin + 1) pm pv pw (upd pst z1.toNatClampNeg z0) (upd pe pin.toNatClampNeg ptn)
def wp_Program_addInstruction (ptn : Int32) (pin : Int32) (pm : Nat → Int32) (pv : Nat → Int32) (pw : Nat → Int32) (pst : Nat → Int32) (pe : Nat → Int32) (p0 : Int32) (p1 : Int32) (p2 : Int32) (post : Int32 → Int32 → (Nat → Int32) → (Nat → Int32) → (Nat → Int32) → (Nat → Int32) → (Nat → Int32) → Prop) : Prop := vp_in pin 40 ∧ vp_in pin 40 ∧ vp_in pin 40 ∧ (if pin = 0 then wp_Program_addInstruction_60 ptn pin (upd pm pin.toNatClampNeg p0) (upd pv pin.toNatClampNeg p1) (upd pw pin.toNatClampNeg p2) pst pe 0 pin post else vp_in (pin - 1) 40 ∧ wp_Program_addInstruction_60 ptn pin (upd pm pin.toNatClampNeg p0) (upd pv pin.toNatClampNeg p1) (upd pw pin.toNatClampNeg p2) pst pe (pe ((pin - 1)).toNatClampNeg) pin post)
set_option maxHeartbeats 4000000 in
set_option maxRecDepth 100000 in
theorem c_Program_addInstruction (l : Launch) (D : va_G) (kT : Nat → ClassId) (ad : Nat → Nat) (ptn : Int32) (pin : Int32) (pm : Nat → Int32) (pv : Nat → Int32) (pw : Nat → Int32) (pst : Nat → Int32) (pe : Nat → Int32) (p0 : Int32) (p1 : Int32) (p2 : Int32) (post : Int32 → Int32 → (Nat → Int32) → (Nat → Int32) → (Nat → Int32) → (Nat → Int32) → (Nat → Int32) → Prop) (h : wp_Program_addInstruction ptn pin pm pv pw pst pe p0 p1 p2 post) : zq_Mi l zy_Program_addInstruction zs_Program_addInstruction ({ frames := 0, cells := 0, slots := 0, locals := 0 }) D kT [.ref (ad 12), .int p0, .int p1, .int p2] (W_Program_addInstruction kT ad ptn pin pm pv pw pst pe) (fun r w' => ∃ (pin' : Int32) (pm' : Nat → Int32) (pv' : Nat → Int32) (pw' : Nat → Int32) (pst' : Nat → Int32) (pe' : Nat → Int32), w' = (W_Program_addInstruction kT ad ptn pin' pm' pv' pw' pst' pe') ∧ post r pin' pm' pv' pw' pst' pe') := by
  refine zq_Mi_of (adl := (A_Program_addInstruction ad)) (cc := zb_Program_addInstruction) (maxL := 4) (own := zR_Program) rfl (by decide) rfl rfl (Nat.le_of_ble_eq_true rfl) ?_
  intro p e s m AV below meth c A QQ H locs ls hx hb hml hown ht hE hA hret hP hD hS hl
  have hK := hE.1
  have hl : lv_has ls 4 [(0, .ref (ad 12)), (1, .int p0), (2, .int p1), (3, .int p2)] := hl
  have B60 : ∀  (pin : Int32) (pm : Nat → Int32) (pv : Nat → Int32) (pw : Nat → Int32) (pst : Nat → Int32) (pe : Nat → Int32) (z0 : Int32) (z1 : Int32) (H : Heap) (locs : List Loc) (ls : Array Slot), wp_Program_addInstruction_60 ptn pin pm pv pw pst pe z0 z1 post → va_P D vwCl (W_Program_addInstruction kT ad ptn pin pm pv pw pst pe) H → va_D A (W_Program_addInstruction kT ad ptn pin pm pv pw pst pe) → va_S A s.heap H locs → lv_has ls 4 [(0, .ref (ad 12))] → W p l e ({ frames := 0, cells := 0, slots := 0, locals := 0 }) s m AV below meth c H locs 0 0 QQ (F0 m 60 ls [.int z0, .int z1, .ref (ad 20)]) := by
    intro pin pm pv pw pst pe z0 z1 H locs ls h hP hD hS hl
    obtain ⟨hi_6, h⟩ := h
    refine zq_a_iast (D := D) hx hb hK hP hD hS 4 0 rfl rfl hi_6 rfl zd_Program_addInstruction_60 (fun H locs hP hD hS => ?_)
    have hP : va_P D vwCl (W_Program_addInstruction kT ad ptn pin pm pv pw (upd pst z1.toNatClampNeg z0) pe) H := hP
    have hD : va_D A (W_Program_addInstruction kT ad ptn pin pm pv pw (upd pst z1.toNatClampNeg z0) pe) := hD
    refine lv_aload_n hx hb zd_Program_addInstruction_61 rfl (lv_at hl 0 rfl) ?_
    refine va_get (D := D) (ci := 3) (v := .ref (ad 21)) (C := zR_Program) (T := zF_Program) (N := 11) hx hb ht zi_Program hown hK hP 0 rfl rfl 9 (by decide) (ht _ zw_171) (fun _ h9 => h9) rfl zd_Program_addInstruction_62 ?_
    refine lv_aload_n hx hb zd_Program_addInstruction_65 rfl (lv_at hl 0 rfl) ?_
    refine va_get (D := D) (ci := 3) (v := .int pin) (C := zR_Program) (T := zF_Program) (N := 11) hx hb ht zi_Program hown hK hP 0 rfl rfl 10 (by decide) (ht _ zw_167) (fun _ h9 => h9) rfl zd_Program_addInstruction_66 ?_
    refine lv_aload_n hx hb zd_Program_addInstruction_69 rfl (lv_at hl 0 rfl) ?_
    refine va_get (D := D) (ci := 3) (v := .int ptn) (C := zR_Program) (T := zF_Program) (N := 11) hx hb ht zi_Program hown hK hP 0 rfl rfl 4 (by decide) (ht _ zw_162) (fun _ h9 => h9) rfl zd_Program_addInstruction_70 ?_
    obtain ⟨hi_7, h⟩ := h
    refine zq_a_iast (D := D) hx hb hK hP hD hS 5 0 rfl rfl hi_7 rfl zd_Program_addInstruction_73 (fun H locs hP hD hS => ?_)
    have hP : va_P D vwCl (W_Program_addInstruction kT ad ptn pin pm pv pw (upd pst z1.toNatClampNeg z0) (upd pe pin.toNatClampNeg ptn)) H := hP
    have hD : va_D A (W_Program_addInstruction kT ad ptn pin pm pv pw (upd pst z1.toNatClampNeg z0) (upd pe pin.toNatClampNeg ptn)) := hD
    refine lv_aload_n hx hb zd_Program_addInstruction_74 rfl (lv_at hl 0 rfl) ?_
    refine lv_dup hx hb zd_Program_addInstruction_75 rfl ?_
    refine va_get (D := D) (ci := 3) (v := .int pin) (C := zR_Program) (T := zF_Program) (N := 11) hx hb ht zi_Program hown hK hP 0 rfl rfl 10 (by decide) (ht _ zw_167) (fun _ h9 => h9) rfl zd_Program_addInstruction_76 ?_
    refine lv_iconst (v := 1) hx hb zd_Program_addInstruction_79 (by decide) ?_
    refine lv_iadd hx hb zd_Program_addInstruction_80 ?_
    refine va_put (D := D) (ci := 3) (v := .int (pin + 1)) (ty := .int) (C := zR_Program) (T := zF_Program) (N := 11) hx hb ht zi_Program zt_Program zt_Program_ok zn_Program hown hK hP hD hS 0 rfl rfl 10 (by decide) (ht _ zw_167) (fun _ h9 => h9) rfl (by decide +kernel) rfl rfl (Nat.le_of_ble_eq_true rfl) zd_Program_addInstruction_81 (fun H locs hP hD hS => ?_)
    have hP : va_P D vwCl (W_Program_addInstruction kT ad ptn (pin + 1) pm pv pw (upd pst z1.toNatClampNeg z0) (upd pe pin.toNatClampNeg ptn)) H := hP
    have hD : va_D A (W_Program_addInstruction kT ad ptn (pin + 1) pm pv pw (upd pst z1.toNatClampNeg z0) (upd pe pin.toNatClampNeg ptn)) := hD
    refine lv_aload_n hx hb zd_Program_addInstruction_84 rfl (lv_at hl 0 rfl) ?_
    refine va_get (D := D) (ci := 3) (v := .int (pin + 1)) (C := zR_Program) (T := zF_Program) (N := 11) hx hb ht zi_Program hown hK hP 0 rfl rfl 10 (by decide) (ht _ zw_167) (fun _ h9 => h9) rfl zd_Program_addInstruction_85 ?_
    refine lv_iconst (v := 1) hx hb zd_Program_addInstruction_88 (by decide) ?_
    refine lv_isub hx hb zd_Program_addInstruction_89 ?_
    exact hret ((pin + 1) - 1)  _ H locs 90 ls ⟨(pin + 1), pm, pv, pw, (upd pst z1.toNatClampNeg z0), (upd pe pin.toNatClampNeg ptn), rfl, h⟩ hP rfl hS zd_Program_addInstruction_90
  refine lv_aload_n hx hb zd_Program_addInstruction_0 rfl (lv_at hl 0 rfl) ?_
  refine va_get (D := D) (ci := 3) (v := .ref (ad 17)) (C := zR_Program) (T := zF_Program) (N := 11) hx hb ht zi_Program hown hK hP 0 rfl rfl 5 (by decide) (ht _ zw_166) (fun _ h9 => h9) rfl zd_Program_addInstruction_1 ?_
  refine lv_aload_n hx hb zd_Program_addInstruction_4 rfl (lv_at hl 0 rfl) ?_
  refine va_get (D := D) (ci := 3) (v := .int pin) (C := zR_Program) (T := zF_Program) (N := 11) hx hb ht zi_Program hown hK hP 0 rfl rfl 10 (by decide) (ht _ zw_167) (fun _ h9 => h9) rfl zd_Program_addInstruction_5 ?_
  refine lv_iload_n hx hb zd_Program_addInstruction_8 rfl (lv_at hl 1 rfl) ?_
  obtain ⟨hi_1, h⟩ := h
  refine zq_a_iast (D := D) hx hb hK hP hD hS 1 0 rfl rfl hi_1 rfl zd_Program_addInstruction_9 (fun H locs hP hD hS => ?_)
  have hP : va_P D vwCl (W_Program_addInstruction kT ad ptn pin (upd pm pin.toNatClampNeg p0) pv pw pst pe) H := hP
  have hD : va_D A (W_Program_addInstruction kT ad ptn pin (upd pm pin.toNatClampNeg p0) pv pw pst pe) := hD
  refine lv_aload_n hx hb zd_Program_addInstruction_10 rfl (lv_at hl 0 rfl) ?_
  refine va_get (D := D) (ci := 3) (v := .ref (ad 18)) (C := zR_Program) (T := zF_Program) (N := 11) hx hb ht zi_Program hown hK hP 0 rfl rfl 6 (by decide) (ht _ zw_168) (fun _ h9 => h9) rfl zd_Program_addInstruction_11 ?_
  refine lv_aload_n hx hb zd_Program_addInstruction_14 rfl (lv_at hl 0 rfl) ?_
  refine va_get (D := D) (ci := 3) (v := .int pin) (C := zR_Program) (T := zF_Program) (N := 11) hx hb ht zi_Program hown hK hP 0 rfl rfl 10 (by decide) (ht _ zw_167) (fun _ h9 => h9) rfl zd_Program_addInstruction_15 ?_
  refine lv_iload_n hx hb zd_Program_addInstruction_18 rfl (lv_at hl 2 rfl) ?_
  obtain ⟨hi_2, h⟩ := h
  refine zq_a_iast (D := D) hx hb hK hP hD hS 2 0 rfl rfl hi_2 rfl zd_Program_addInstruction_19 (fun H locs hP hD hS => ?_)
  have hP : va_P D vwCl (W_Program_addInstruction kT ad ptn pin (upd pm pin.toNatClampNeg p0) (upd pv pin.toNatClampNeg p1) pw pst pe) H := hP
  have hD : va_D A (W_Program_addInstruction kT ad ptn pin (upd pm pin.toNatClampNeg p0) (upd pv pin.toNatClampNeg p1) pw pst pe) := hD
  refine lv_aload_n hx hb zd_Program_addInstruction_20 rfl (lv_at hl 0 rfl) ?_
  refine va_get (D := D) (ci := 3) (v := .ref (ad 19)) (C := zR_Program) (T := zF_Program) (N := 11) hx hb ht zi_Program hown hK hP 0 rfl rfl 7 (by decide) (ht _ zw_169) (fun _ h9 => h9) rfl zd_Program_addInstruction_21 ?_
  refine lv_aload_n hx hb zd_Program_addInstruction_24 rfl (lv_at hl 0 rfl) ?_
  refine va_get (D := D) (ci := 3) (v := .int pin) (C := zR_Program) (T := zF_Program) (N := 11) hx hb ht zi_Program hown hK hP 0 rfl rfl 10 (by decide) (ht _ zw_167) (fun _ h9 => h9) rfl zd_Program_addInstruction_25 ?_
  refine lv_iload_n hx hb zd_Program_addInstruction_28 rfl (lv_at hl 3 rfl) ?_
  obtain ⟨hi_3, h⟩ := h
  refine zq_a_iast (D := D) hx hb hK hP hD hS 3 0 rfl rfl hi_3 rfl zd_Program_addInstruction_29 (fun H locs hP hD hS => ?_)
  have hP : va_P D vwCl (W_Program_addInstruction kT ad ptn pin (upd pm pin.toNatClampNeg p0) (upd pv pin.toNatClampNeg p1) (upd pw pin.toNatClampNeg p2) pst pe) H := hP
  have hD : va_D A (W_Program_addInstruction kT ad ptn pin (upd pm pin.toNatClampNeg p0) (upd pv pin.toNatClampNeg p1) (upd pw pin.toNatClampNeg p2) pst pe) := hD
  refine lv_aload_n hx hb zd_Program_addInstruction_30 rfl (lv_at hl 0 rfl) ?_
  refine va_get (D := D) (ci := 3) (v := .ref (ad 20)) (C := zR_Program) (T := zF_Program) (N := 11) hx hb ht zi_Program hown hK hP 0 rfl rfl 8 (by decide) (ht _ zw_170) (fun _ h9 => h9) rfl zd_Program_addInstruction_31 ?_
  refine lv_aload_n hx hb zd_Program_addInstruction_34 rfl (lv_at hl 0 rfl) ?_
  refine va_get (D := D) (ci := 3) (v := .int pin) (C := zR_Program) (T := zF_Program) (N := 11) hx hb ht zi_Program hown hK hP 0 rfl rfl 10 (by decide) (ht _ zw_167) (fun _ h9 => h9) rfl zd_Program_addInstruction_35 ?_
  refine lv_aload_n hx hb zd_Program_addInstruction_38 rfl (lv_at hl 0 rfl) ?_
  refine va_get (D := D) (ci := 3) (v := .int pin) (C := zR_Program) (T := zF_Program) (N := 11) hx hb ht zi_Program hown hK hP 0 rfl rfl 10 (by decide) (ht _ zw_167) (fun _ h9 => h9) rfl zd_Program_addInstruction_39 ?_
  refine lv_if_ne (tgt := 49) hx hb zd_Program_addInstruction_42 (by decide) (fun c_4 => ?_) (fun c_4 => ?_)
  · have h := zq_if c_4 h
    refine lv_aload_n hx hb zd_Program_addInstruction_49 rfl (lv_at hl 0 rfl) ?_
    refine va_get (D := D) (ci := 3) (v := .ref (ad 21)) (C := zR_Program) (T := zF_Program) (N := 11) hx hb ht zi_Program hown hK hP 0 rfl rfl 9 (by decide) (ht _ zw_171) (fun _ h9 => h9) rfl zd_Program_addInstruction_50 ?_
    refine lv_aload_n hx hb zd_Program_addInstruction_53 rfl (lv_at hl 0 rfl) ?_
    refine va_get (D := D) (ci := 3) (v := .int pin) (C := zR_Program) (T := zF_Program) (N := 11) hx hb ht zi_Program hown hK hP 0 rfl rfl 10 (by decide) (ht _ zw_167) (fun _ h9 => h9) rfl zd_Program_addInstruction_54 ?_
    refine lv_iconst (v := 1) hx hb zd_Program_addInstruction_57 (by decide) ?_
    refine lv_isub hx hb zd_Program_addInstruction_58 ?_
    obtain ⟨hi_5, h⟩ := h
    refine zq_a_iald (D := D) hx hb hK hP 5 0 rfl rfl hi_5 rfl zd_Program_addInstruction_59 ?_
    exact B60 pin (upd pm pin.toNatClampNeg p0) (upd pv pin.toNatClampNeg p1) (upd pw pin.toNatClampNeg p2) pst pe (pe ((pin - 1)).toNatClampNeg) pin H locs ls h hP hD hS (lv_sub hl [0] rfl)
  · have h := zq_it c_4 h
    refine lv_iconst (v := 0) hx hb zd_Program_addInstruction_45 (by decide) ?_
    refine lv_goto (tgt := 60) hx hb zd_Program_addInstruction_46 (by decide) ?_
    exact B60 pin (upd pm pin.toNatClampNeg p0) (upd pv pin.toNatClampNeg p1) (upd pw pin.toNatClampNeg p2) pst pe 0 pin H locs ls h hP hD hS (lv_sub hl [0] rfl)
abbrev W_Program_find (kT : Nat → ClassId) (ad : Nat → Nat) (ptn : Int32) (pin : Int32) (pm : Nat → Int32) (pv : Nat → Int32) : va_W := [(ad 12, .inr (3, [.ref (ad 13), .ref (ad 14), .ref (ad 15), .ref (ad 16), .int ptn, .ref (ad 17), .ref (ad 18), .ref (ad 19), .ref (ad 20), .ref (ad 21), .int pin])), (ad 17, .inl (kT 0, 40, .inl pm)), (ad 18, .inl (kT 0, 40, .inl pv))]
abbrev A_Program_find (ad : Nat → Nat) : List Nat := [ad 12, ad 17, ad 18]
def wp_Program_find_2 (ptn : Int32) (pin : Int32) (pm : Nat → Int32) (pv : Nat → Int32) (post : Int32 → Prop) : Nat → Int32 → Int32 → Prop
  | 0 => fun _ _ => False
  | n + 1 => fun y1 y2 => (if pin ≤ y2 then post (-1)  else vp_in y2 40 ∧ vp_in y2 40 ∧ (if (y1 &&& (pm y2.toNatClampNeg)) = (pv y2.toNatClampNeg) then post y2  else wp_Program_find_2 ptn pin pm pv post n y1 (y2 + 1)))
def wp_Program_find (ptn : Int32) (pin : Int32) (pm : Nat → Int32) (pv : Nat → Int32) (p0 : Int32) (post : Int32 → Prop) : Prop := ∃ n, wp_Program_find_2 ptn pin pm pv post n p0 0
set_option maxHeartbeats 4000000 in
set_option maxRecDepth 100000 in
theorem c_Program_find (l : Launch) (D : va_G) (kT : Nat → ClassId) (ad : Nat → Nat) (ptn : Int32) (pin : Int32) (pm : Nat → Int32) (pv : Nat → Int32) (p0 : Int32) (post : Int32 → Prop) (h : wp_Program_find ptn pin pm pv p0 post) : zq_Mi l zy_Program_find zs_Program_find ({ frames := 0, cells := 0, slots := 0, locals := 0 }) D kT [.ref (ad 12), .int p0] (W_Program_find kT ad ptn pin pm pv) (fun r w' => w' = (W_Program_find kT ad ptn pin pm pv) ∧ post r ) := by
  refine zq_Mi_of (adl := (A_Program_find ad)) (cc := zb_Program_find) (maxL := 3) (own := zR_Program) rfl (by decide) rfl rfl (Nat.le_of_ble_eq_true rfl) ?_
  intro p e s m AV below meth c A QQ H locs ls hx hb hml hown ht hE hA hret hP hD hS hl
  have hK := hE.1
  have hl : lv_has ls 3 [(0, .ref (ad 12)), (1, .int p0)] := hl
  have B2 : ∀ (n : Nat)  (y1 : Int32) (y2 : Int32) (H : Heap) (locs : List Loc) (ls : Array Slot), wp_Program_find_2 ptn pin pm pv post n y1 y2 → va_P D vwCl (W_Program_find kT ad ptn pin pm pv) H → va_D A (W_Program_find kT ad ptn pin pm pv) → va_S A s.heap H locs → lv_has ls 3 [(0, .ref (ad 12)), (1, .int y1), (2, .int y2)] → W p l e ({ frames := 0, cells := 0, slots := 0, locals := 0 }) s m AV below meth c H locs 0 0 QQ (F0 m 2 ls []) := by
    intro n
    induction n with
    | zero =>
      intro y1 y2 H locs ls h
      exact h.elim
    | succ n ih =>
      intro y1 y2 H locs ls h hP hD hS hl
      refine lv_iload_n hx hb zd_Program_find_2 rfl (lv_at hl 2 rfl) ?_
      refine lv_aload_n hx hb zd_Program_find_3 rfl (lv_at hl 0 rfl) ?_
      refine va_get (D := D) (ci := 3) (v := .int pin) (C := zR_Program) (T := zF_Program) (N := 11) hx hb ht zi_Program hown hK hP 0 rfl rfl 10 (by decide) (ht _ zw_167) (fun _ h9 => h9) rfl zd_Program_find_4 ?_
      refine lv_icmp_ge (tgt := 35) hx hb zd_Program_find_7 (by decide) (fun c_1 => ?_) (fun c_1 => ?_)
      · have h := zq_it c_1 h
        refine lv_iconst (v := (-1)) hx hb zd_Program_find_35 (by decide) ?_
        exact hret (-1)  _ H locs 36 ls ⟨rfl, h⟩ hP rfl hS zd_Program_find_36
      · have h := zq_if c_1 h
        refine lv_iload_n hx hb zd_Program_find_10 rfl (lv_at hl 1 rfl) ?_
        refine lv_aload_n hx hb zd_Program_find_11 rfl (lv_at hl 0 rfl) ?_
        refine va_get (D := D) (ci := 3) (v := .ref (ad 17)) (C := zR_Program) (T := zF_Program) (N := 11) hx hb ht zi_Program hown hK hP 0 rfl rfl 5 (by decide) (ht _ zw_166) (fun _ h9 => h9) rfl zd_Program_find_12 ?_
        refine lv_iload_n hx hb zd_Program_find_15 rfl (lv_at hl 2 rfl) ?_
        obtain ⟨hi_2, h⟩ := h
        refine zq_a_iald (D := D) hx hb hK hP 1 0 rfl rfl hi_2 rfl zd_Program_find_16 ?_
        refine lv_iand hx hb zd_Program_find_17 ?_
        refine lv_aload_n hx hb zd_Program_find_18 rfl (lv_at hl 0 rfl) ?_
        refine va_get (D := D) (ci := 3) (v := .ref (ad 18)) (C := zR_Program) (T := zF_Program) (N := 11) hx hb ht zi_Program hown hK hP 0 rfl rfl 6 (by decide) (ht _ zw_168) (fun _ h9 => h9) rfl zd_Program_find_19 ?_
        refine lv_iload_n hx hb zd_Program_find_22 rfl (lv_at hl 2 rfl) ?_
        obtain ⟨hi_3, h⟩ := h
        refine zq_a_iald (D := D) hx hb hK hP 2 0 rfl rfl hi_3 rfl zd_Program_find_23 ?_
        refine lv_icmp_ne (tgt := 29) hx hb zd_Program_find_24 (by decide) (fun c_4 => ?_) (fun c_4 => ?_)
        · have h := zq_if c_4 h
          refine lv_iinc (v := (y2 + 1)) (lv' := [(2, .int (y2 + 1)), (0, .ref (ad 12)), (1, .int y1)]) hx hb zd_Program_find_29 hl (k := 2) rfl rfl (by decide) rfl (fun ls hl => ?_)
          refine lv_goto (tgt := 2) hx hb zd_Program_find_32 (by decide) ?_
          exact ih y1 (y2 + 1) H locs ls h hP hD hS (lv_sub hl [1, 2, 0] rfl)
        · have h := zq_it c_4 h
          refine lv_iload_n hx hb zd_Program_find_27 rfl (lv_at hl 2 rfl) ?_
          exact hret y2  _ H locs 28 ls ⟨rfl, h⟩ hP rfl hS zd_Program_find_28
  refine lv_iconst (v := 0) hx hb zd_Program_find_0 (by decide) ?_
  refine lv_istore_n (lv' := [(2, .int 0), (0, .ref (ad 12)), (1, .int p0)]) hx hb zd_Program_find_1 rfl hl (by decide) rfl (fun ls hl => ?_)
  obtain ⟨n, h⟩ := h
  exact B2 n p0 0 H locs ls h hP hD hS (lv_sub hl [1, 2, 0] rfl)
abbrev W_Program_is (kT : Nat → ClassId) (ad : Nat → Nat) (ptn : Int32) (pin : Int32) (pw : Nat → Int32) : va_W := [(ad 12, .inr (3, [.ref (ad 13), .ref (ad 14), .ref (ad 15), .ref (ad 16), .int ptn, .ref (ad 17), .ref (ad 18), .ref (ad 19), .ref (ad 20), .ref (ad 21), .int pin])), (ad 19, .inl (kT 0, 40, .inl pw))]
abbrev A_Program_is (ad : Nat → Nat) : List Nat := [ad 12, ad 19]
def wp_Program_is (ptn : Int32) (pin : Int32) (pw : Nat → Int32) (p0 : Int32) (p1 : Int32) (post : Int32 → Prop) : Prop := vp_in p0 40 ∧ (if ((pw p0.toNatClampNeg) &&& p1) = 0 then post 0  else post 1 )
set_option maxHeartbeats 4000000 in
set_option maxRecDepth 100000 in
theorem c_Program_is (l : Launch) (D : va_G) (kT : Nat → ClassId) (ad : Nat → Nat) (ptn : Int32) (pin : Int32) (pw : Nat → Int32) (p0 : Int32) (p1 : Int32) (post : Int32 → Prop) (h : wp_Program_is ptn pin pw p0 p1 post) : zq_Mi l zy_Program_is zs_Program_is ({ frames := 0, cells := 0, slots := 0, locals := 0 }) D kT [.ref (ad 12), .int p0, .int p1] (W_Program_is kT ad ptn pin pw) (fun r w' => w' = (W_Program_is kT ad ptn pin pw) ∧ post r ) := by
  refine zq_Mz_of (adl := (A_Program_is ad)) (cc := zb_Program_is) (maxL := 3) (own := zR_Program) rfl (by decide) rfl rfl (Nat.le_of_ble_eq_true rfl) ?_
  intro p e s m AV below meth c A QQ H locs ls hx hb hml hown ht hE hA hret hP hD hS hl
  have hK := hE.1
  have hl : lv_has ls 3 [(0, .ref (ad 12)), (1, .int p0), (2, .int p1)] := hl
  refine lv_aload_n hx hb zd_Program_is_0 rfl (lv_at hl 0 rfl) ?_
  refine va_get (D := D) (ci := 3) (v := .ref (ad 19)) (C := zR_Program) (T := zF_Program) (N := 11) hx hb ht zi_Program hown hK hP 0 rfl rfl 7 (by decide) (ht _ zw_169) (fun _ h9 => h9) rfl zd_Program_is_1 ?_
  refine lv_iload_n hx hb zd_Program_is_4 rfl (lv_at hl 1 rfl) ?_
  obtain ⟨hi_1, h⟩ := h
  refine zq_a_iald (D := D) hx hb hK hP 1 0 rfl rfl hi_1 rfl zd_Program_is_5 ?_
  refine lv_iload_n hx hb zd_Program_is_6 rfl (lv_at hl 2 rfl) ?_
  refine lv_iand hx hb zd_Program_is_7 ?_
  refine lv_if_eq (tgt := 15) hx hb zd_Program_is_8 (by decide) (fun c_2 => ?_) (fun c_2 => ?_)
  · have h := zq_it c_2 h
    refine lv_iconst (v := 0) hx hb zd_Program_is_15 (by decide) ?_
    exact hret 0 rfl _ H locs 16 ls ⟨rfl, h⟩ hP rfl hS zd_Program_is_16
  · have h := zq_if c_2 h
    refine lv_iconst (v := 1) hx hb zd_Program_is_11 (by decide) ?_
    refine lv_goto (tgt := 16) hx hb zd_Program_is_12 (by decide) ?_
    exact hret 1 rfl _ H locs 16 ls ⟨rfl, h⟩ hP rfl hS zd_Program_is_16
end
section
abbrev W_Kept_isFull (kT : Nat → ClassId) (ad : Nat → Nat) (kn : Int32) (kv : Int32) : va_W := [(ad 22, .inr (4, [.ref (ad 23), .ref (ad 24), .int kn, .int kv]))]
abbrev A_Kept_isFull (ad : Nat → Nat) : List Nat := [ad 22]
def wp_Kept_isFull (kn : Int32) (kv : Int32)  (post : Int32 → Prop) : Prop := (if kn < 8 then post 0  else post 1 )
set_option maxHeartbeats 4000000 in
set_option maxRecDepth 100000 in
theorem c_Kept_isFull (l : Launch) (D : va_G) (kT : Nat → ClassId) (ad : Nat → Nat) (kn : Int32) (kv : Int32)  (post : Int32 → Prop) (h : wp_Kept_isFull kn kv  post) : zq_Mi l zy_Kept_isFull zs_Kept_isFull ({ frames := 0, cells := 0, slots := 0, locals := 0 }) D kT [.ref (ad 22)] (W_Kept_isFull kT ad kn kv) (fun r w' => w' = (W_Kept_isFull kT ad kn kv) ∧ post r ) := by
  refine zq_Mz_of (adl := (A_Kept_isFull ad)) (cc := zb_Kept_isFull) (maxL := 1) (own := zR_Kept) rfl (by decide) rfl rfl (Nat.le_of_ble_eq_true rfl) ?_
  intro p e s m AV below meth c A QQ H locs ls hx hb hml hown ht hE hA hret hP hD hS hl
  have hK := hE.1
  have hl : lv_has ls 1 [(0, .ref (ad 22))] := hl
  refine lv_aload_n hx hb zd_Kept_isFull_0 rfl (lv_at hl 0 rfl) ?_
  refine va_get (D := D) (ci := 4) (v := .int kn) (C := zR_Kept) (T := zF_Kept) (N := 4) hx hb ht zi_Kept hown hK hP 0 rfl rfl 2 (by decide) (ht _ zw_172) (fun _ h9 => h9) rfl zd_Kept_isFull_1 ?_
  refine lv_bipush (v := 8) hx hb zd_Kept_isFull_4 (by decide) ?_
  refine lv_icmp_lt (tgt := 13) hx hb zd_Kept_isFull_6 (by decide) (fun c_1 => ?_) (fun c_1 => ?_)
  · have h := zq_it c_1 h
    refine lv_iconst (v := 0) hx hb zd_Kept_isFull_13 (by decide) ?_
    exact hret 0 rfl _ H locs 14 ls ⟨rfl, h⟩ hP rfl hS zd_Kept_isFull_14
  · have h := zq_if c_1 h
    refine lv_iconst (v := 1) hx hb zd_Kept_isFull_9 (by decide) ?_
    refine lv_goto (tgt := 14) hx hb zd_Kept_isFull_10 (by decide) ?_
    exact hret 1 rfl _ H locs 14 ls ⟨rfl, h⟩ hP rfl hS zd_Kept_isFull_14
abbrev W_Kept_keep (kT : Nat → ClassId) (ad : Nat → Nat) (kn : Int32) (kv : Int32) (kp : Nat → Int32) (kl : Nat → Int32) : va_W := [(ad 22, .inr (4, [.ref (ad 23), .ref (ad 24), .int kn, .int kv])), (ad 23, .inl (kT 0, 8, .inl kp)), (ad 24, .inl (kT 0, 8, .inl kl))]
abbrev A_Kept_keep (ad : Nat → Nat) : List Nat := [ad 22, ad 23, ad 24]
def wp_Kept_keep (kn : Int32) (kv : Int32) (kp : Nat → Int32) (kl : Nat → Int32) (p0 : Int32) (p1 : Int32) (post : Int32 → Int32 → (Nat → Int32) → (Nat → Int32) → Prop) : Prop := vp_in kn 8 ∧ vp_in kn 8 ∧ post  (kn + 1) p1 (upd kp kn.toNatClampNeg p0) (upd kl kn.toNatClampNeg kv)
set_option maxHeartbeats 4000000 in
set_option maxRecDepth 100000 in
theorem c_Kept_keep (l : Launch) (D : va_G) (kT : Nat → ClassId) (ad : Nat → Nat) (kn : Int32) (kv : Int32) (kp : Nat → Int32) (kl : Nat → Int32) (p0 : Int32) (p1 : Int32) (post : Int32 → Int32 → (Nat → Int32) → (Nat → Int32) → Prop) (h : wp_Kept_keep kn kv kp kl p0 p1 post) : zq_Mv l zy_Kept_keep zs_Kept_keep ({ frames := 0, cells := 0, slots := 0, locals := 0 }) D kT [.ref (ad 22), .int p0, .int p1] (W_Kept_keep kT ad kn kv kp kl) (fun w' => ∃ (kn' : Int32) (kv' : Int32) (kp' : Nat → Int32) (kl' : Nat → Int32), w' = (W_Kept_keep kT ad kn' kv' kp' kl') ∧ post  kn' kv' kp' kl') := by
  refine zq_Mv_of (adl := (A_Kept_keep ad)) (cc := zb_Kept_keep) (maxL := 3) (own := zR_Kept) rfl (by decide) rfl rfl (Nat.le_of_ble_eq_true rfl) ?_
  intro p e s m AV below meth c A QQ H locs ls hx hb hml hown ht hE hA hret hP hD hS hl
  have hK := hE.1
  have hl : lv_has ls 3 [(0, .ref (ad 22)), (1, .int p0), (2, .int p1)] := hl
  refine lv_aload_n hx hb zd_Kept_keep_0 rfl (lv_at hl 0 rfl) ?_
  refine va_get (D := D) (ci := 4) (v := .ref (ad 23)) (C := zR_Kept) (T := zF_Kept) (N := 4) hx hb ht zi_Kept hown hK hP 0 rfl rfl 0 (by decide) (ht _ zw_173) (fun _ h9 => h9) rfl zd_Kept_keep_1 ?_
  refine lv_aload_n hx hb zd_Kept_keep_4 rfl (lv_at hl 0 rfl) ?_
  refine va_get (D := D) (ci := 4) (v := .int kn) (C := zR_Kept) (T := zF_Kept) (N := 4) hx hb ht zi_Kept hown hK hP 0 rfl rfl 2 (by decide) (ht _ zw_172) (fun _ h9 => h9) rfl zd_Kept_keep_5 ?_
  refine lv_iload_n hx hb zd_Kept_keep_8 rfl (lv_at hl 1 rfl) ?_
  obtain ⟨hi_1, h⟩ := h
  refine zq_a_iast (D := D) hx hb hK hP hD hS 1 0 rfl rfl hi_1 rfl zd_Kept_keep_9 (fun H locs hP hD hS => ?_)
  have hP : va_P D vwCl (W_Kept_keep kT ad kn kv (upd kp kn.toNatClampNeg p0) kl) H := hP
  have hD : va_D A (W_Kept_keep kT ad kn kv (upd kp kn.toNatClampNeg p0) kl) := hD
  refine lv_aload_n hx hb zd_Kept_keep_10 rfl (lv_at hl 0 rfl) ?_
  refine va_get (D := D) (ci := 4) (v := .ref (ad 24)) (C := zR_Kept) (T := zF_Kept) (N := 4) hx hb ht zi_Kept hown hK hP 0 rfl rfl 1 (by decide) (ht _ zw_174) (fun _ h9 => h9) rfl zd_Kept_keep_11 ?_
  refine lv_aload_n hx hb zd_Kept_keep_14 rfl (lv_at hl 0 rfl) ?_
  refine va_get (D := D) (ci := 4) (v := .int kn) (C := zR_Kept) (T := zF_Kept) (N := 4) hx hb ht zi_Kept hown hK hP 0 rfl rfl 2 (by decide) (ht _ zw_172) (fun _ h9 => h9) rfl zd_Kept_keep_15 ?_
  refine lv_aload_n hx hb zd_Kept_keep_18 rfl (lv_at hl 0 rfl) ?_
  refine va_get (D := D) (ci := 4) (v := .int kv) (C := zR_Kept) (T := zF_Kept) (N := 4) hx hb ht zi_Kept hown hK hP 0 rfl rfl 3 (by decide) (ht _ zw_175) (fun _ h9 => h9) rfl zd_Kept_keep_19 ?_
  obtain ⟨hi_2, h⟩ := h
  refine zq_a_iast (D := D) hx hb hK hP hD hS 2 0 rfl rfl hi_2 rfl zd_Kept_keep_22 (fun H locs hP hD hS => ?_)
  have hP : va_P D vwCl (W_Kept_keep kT ad kn kv (upd kp kn.toNatClampNeg p0) (upd kl kn.toNatClampNeg kv)) H := hP
  have hD : va_D A (W_Kept_keep kT ad kn kv (upd kp kn.toNatClampNeg p0) (upd kl kn.toNatClampNeg kv)) := hD
  refine lv_aload_n hx hb zd_Kept_keep_23 rfl (lv_at hl 0 rfl) ?_
  refine lv_dup hx hb zd_Kept_keep_24 rfl ?_
  refine va_get (D := D) (ci := 4) (v := .int kn) (C := zR_Kept) (T := zF_Kept) (N := 4) hx hb ht zi_Kept hown hK hP 0 rfl rfl 2 (by decide) (ht _ zw_172) (fun _ h9 => h9) rfl zd_Kept_keep_25 ?_
  refine lv_iconst (v := 1) hx hb zd_Kept_keep_28 (by decide) ?_
  refine lv_iadd hx hb zd_Kept_keep_29 ?_
  refine va_put (D := D) (ci := 4) (v := .int (kn + 1)) (ty := .int) (C := zR_Kept) (T := zF_Kept) (N := 4) hx hb ht zi_Kept zt_Kept zt_Kept_ok zn_Kept hown hK hP hD hS 0 rfl rfl 2 (by decide) (ht _ zw_172) (fun _ h9 => h9) rfl (by decide +kernel) rfl rfl (Nat.le_of_ble_eq_true rfl) zd_Kept_keep_30 (fun H locs hP hD hS => ?_)
  have hP : va_P D vwCl (W_Kept_keep kT ad (kn + 1) kv (upd kp kn.toNatClampNeg p0) (upd kl kn.toNatClampNeg kv)) H := hP
  have hD : va_D A (W_Kept_keep kT ad (kn + 1) kv (upd kp kn.toNatClampNeg p0) (upd kl kn.toNatClampNeg kv)) := hD
  refine lv_aload_n hx hb zd_Kept_keep_33 rfl (lv_at hl 0 rfl) ?_
  refine lv_iload_n hx hb zd_Kept_keep_34 rfl (lv_at hl 2 rfl) ?_
  refine va_put (D := D) (ci := 4) (v := .int p1) (ty := .int) (C := zR_Kept) (T := zF_Kept) (N := 4) hx hb ht zi_Kept zt_Kept zt_Kept_ok zn_Kept hown hK hP hD hS 0 rfl rfl 3 (by decide) (ht _ zw_175) (fun _ h9 => h9) rfl (by decide +kernel) rfl rfl (Nat.le_of_ble_eq_true rfl) zd_Kept_keep_35 (fun H locs hP hD hS => ?_)
  have hP : va_P D vwCl (W_Kept_keep kT ad (kn + 1) p1 (upd kp kn.toNatClampNeg p0) (upd kl kn.toNatClampNeg kv)) H := hP
  have hD : va_D A (W_Kept_keep kT ad (kn + 1) p1 (upd kp kn.toNatClampNeg p0) (upd kl kn.toNatClampNeg kv)) := hD
  exact hret  _ H locs 38 ls ⟨(kn + 1), p1, (upd kp kn.toNatClampNeg p0), (upd kl kn.toNatClampNeg kv), rfl, h⟩ hP rfl hS zd_Kept_keep_38
abbrev W_Kept_goBack (kT : Nat → ClassId) (ad : Nat → Nat) (kn : Int32) (kv : Int32) (kp : Nat → Int32) (kl : Nat → Int32) : va_W := [(ad 22, .inr (4, [.ref (ad 23), .ref (ad 24), .int kn, .int kv])), (ad 23, .inl (kT 0, 8, .inl kp)), (ad 24, .inl (kT 0, 8, .inl kl))]
abbrev A_Kept_goBack (ad : Nat → Nat) : List Nat := [ad 22, ad 23, ad 24]
def wp_Kept_goBack (kn : Int32) (kv : Int32) (kp : Nat → Int32) (kl : Nat → Int32)  (post : Int32 → Int32 → Int32 → Prop) : Prop := (if 0 < kn then vp_in (kn - 1) 8 ∧ vp_in (kn - 1) 8 ∧ post (kp ((kn - 1)).toNatClampNeg) (kn - 1) (kl ((kn - 1)).toNatClampNeg) else post (-1) kn kv)
set_option maxHeartbeats 4000000 in
set_option maxRecDepth 100000 in
theorem c_Kept_goBack (l : Launch) (D : va_G) (kT : Nat → ClassId) (ad : Nat → Nat) (kn : Int32) (kv : Int32) (kp : Nat → Int32) (kl : Nat → Int32)  (post : Int32 → Int32 → Int32 → Prop) (h : wp_Kept_goBack kn kv kp kl  post) : zq_Mi l zy_Kept_goBack zs_Kept_goBack ({ frames := 0, cells := 0, slots := 0, locals := 0 }) D kT [.ref (ad 22)] (W_Kept_goBack kT ad kn kv kp kl) (fun r w' => ∃ (kn' : Int32) (kv' : Int32), w' = (W_Kept_goBack kT ad kn' kv' kp kl) ∧ post r kn' kv') := by
  refine zq_Mi_of (adl := (A_Kept_goBack ad)) (cc := zb_Kept_goBack) (maxL := 1) (own := zR_Kept) rfl (by decide) rfl rfl (Nat.le_of_ble_eq_true rfl) ?_
  intro p e s m AV below meth c A QQ H locs ls hx hb hml hown ht hE hA hret hP hD hS hl
  have hK := hE.1
  have hl : lv_has ls 1 [(0, .ref (ad 22))] := hl
  refine lv_aload_n hx hb zd_Kept_goBack_0 rfl (lv_at hl 0 rfl) ?_
  refine va_get (D := D) (ci := 4) (v := .int kn) (C := zR_Kept) (T := zF_Kept) (N := 4) hx hb ht zi_Kept hown hK hP 0 rfl rfl 2 (by decide) (ht _ zw_172) (fun _ h9 => h9) rfl zd_Kept_goBack_1 ?_
  refine lv_if_gt (tgt := 9) hx hb zd_Kept_goBack_4 (by decide) (fun c_1 => ?_) (fun c_1 => ?_)
  · have h := zq_it c_1 h
    refine lv_aload_n hx hb zd_Kept_goBack_9 rfl (lv_at hl 0 rfl) ?_
    refine lv_dup hx hb zd_Kept_goBack_10 rfl ?_
    refine va_get (D := D) (ci := 4) (v := .int kn) (C := zR_Kept) (T := zF_Kept) (N := 4) hx hb ht zi_Kept hown hK hP 0 rfl rfl 2 (by decide) (ht _ zw_172) (fun _ h9 => h9) rfl zd_Kept_goBack_11 ?_
    refine lv_iconst (v := 1) hx hb zd_Kept_goBack_14 (by decide) ?_
    refine lv_isub hx hb zd_Kept_goBack_15 ?_
    refine va_put (D := D) (ci := 4) (v := .int (kn - 1)) (ty := .int) (C := zR_Kept) (T := zF_Kept) (N := 4) hx hb ht zi_Kept zt_Kept zt_Kept_ok zn_Kept hown hK hP hD hS 0 rfl rfl 2 (by decide) (ht _ zw_172) (fun _ h9 => h9) rfl (by decide +kernel) rfl rfl (Nat.le_of_ble_eq_true rfl) zd_Kept_goBack_16 (fun H locs hP hD hS => ?_)
    have hP : va_P D vwCl (W_Kept_goBack kT ad (kn - 1) kv kp kl) H := hP
    have hD : va_D A (W_Kept_goBack kT ad (kn - 1) kv kp kl) := hD
    refine lv_aload_n hx hb zd_Kept_goBack_19 rfl (lv_at hl 0 rfl) ?_
    refine lv_aload_n hx hb zd_Kept_goBack_20 rfl (lv_at hl 0 rfl) ?_
    refine va_get (D := D) (ci := 4) (v := .ref (ad 24)) (C := zR_Kept) (T := zF_Kept) (N := 4) hx hb ht zi_Kept hown hK hP 0 rfl rfl 1 (by decide) (ht _ zw_174) (fun _ h9 => h9) rfl zd_Kept_goBack_21 ?_
    refine lv_aload_n hx hb zd_Kept_goBack_24 rfl (lv_at hl 0 rfl) ?_
    refine va_get (D := D) (ci := 4) (v := .int (kn - 1)) (C := zR_Kept) (T := zF_Kept) (N := 4) hx hb ht zi_Kept hown hK hP 0 rfl rfl 2 (by decide) (ht _ zw_172) (fun _ h9 => h9) rfl zd_Kept_goBack_25 ?_
    obtain ⟨hi_2, h⟩ := h
    refine zq_a_iald (D := D) hx hb hK hP 2 0 rfl rfl hi_2 rfl zd_Kept_goBack_28 ?_
    refine va_put (D := D) (ci := 4) (v := .int (kl ((kn - 1)).toNatClampNeg)) (ty := .int) (C := zR_Kept) (T := zF_Kept) (N := 4) hx hb ht zi_Kept zt_Kept zt_Kept_ok zn_Kept hown hK hP hD hS 0 rfl rfl 3 (by decide) (ht _ zw_175) (fun _ h9 => h9) rfl (by decide +kernel) rfl rfl (Nat.le_of_ble_eq_true rfl) zd_Kept_goBack_29 (fun H locs hP hD hS => ?_)
    have hP : va_P D vwCl (W_Kept_goBack kT ad (kn - 1) (kl ((kn - 1)).toNatClampNeg) kp kl) H := hP
    have hD : va_D A (W_Kept_goBack kT ad (kn - 1) (kl ((kn - 1)).toNatClampNeg) kp kl) := hD
    refine lv_aload_n hx hb zd_Kept_goBack_32 rfl (lv_at hl 0 rfl) ?_
    refine va_get (D := D) (ci := 4) (v := .ref (ad 23)) (C := zR_Kept) (T := zF_Kept) (N := 4) hx hb ht zi_Kept hown hK hP 0 rfl rfl 0 (by decide) (ht _ zw_173) (fun _ h9 => h9) rfl zd_Kept_goBack_33 ?_
    refine lv_aload_n hx hb zd_Kept_goBack_36 rfl (lv_at hl 0 rfl) ?_
    refine va_get (D := D) (ci := 4) (v := .int (kn - 1)) (C := zR_Kept) (T := zF_Kept) (N := 4) hx hb ht zi_Kept hown hK hP 0 rfl rfl 2 (by decide) (ht _ zw_172) (fun _ h9 => h9) rfl zd_Kept_goBack_37 ?_
    obtain ⟨hi_3, h⟩ := h
    refine zq_a_iald (D := D) hx hb hK hP 1 0 rfl rfl hi_3 rfl zd_Kept_goBack_40 ?_
    exact hret (kp ((kn - 1)).toNatClampNeg)  _ H locs 41 ls ⟨(kn - 1), (kl ((kn - 1)).toNatClampNeg), rfl, h⟩ hP rfl hS zd_Kept_goBack_41
  · have h := zq_if c_1 h
    refine lv_iconst (v := (-1)) hx hb zd_Kept_goBack_7 (by decide) ?_
    exact hret (-1)  _ H locs 8 ls ⟨kn, kv, rfl, h⟩ hP rfl hS zd_Kept_goBack_8
abbrev W_Kept_restore (kT : Nat → ClassId) (ad : Nat → Nat) (kn : Int32) (kv : Int32) : va_W := [(ad 22, .inr (4, [.ref (ad 23), .ref (ad 24), .int kn, .int kv]))]
abbrev A_Kept_restore (ad : Nat → Nat) : List Nat := [ad 22]
def wp_Kept_restore (kn : Int32) (kv : Int32) (p0 : Int32) (p1 : Int32) (post : Int32 → Int32 → Prop) : Prop := post  p0 p1
set_option maxHeartbeats 4000000 in
set_option maxRecDepth 100000 in
theorem c_Kept_restore (l : Launch) (D : va_G) (kT : Nat → ClassId) (ad : Nat → Nat) (kn : Int32) (kv : Int32) (p0 : Int32) (p1 : Int32) (post : Int32 → Int32 → Prop) (h : wp_Kept_restore kn kv p0 p1 post) : zq_Mv l zy_Kept_restore zs_Kept_restore ({ frames := 0, cells := 0, slots := 0, locals := 0 }) D kT [.ref (ad 22), .int p0, .int p1] (W_Kept_restore kT ad kn kv) (fun w' => ∃ (kn' : Int32) (kv' : Int32), w' = (W_Kept_restore kT ad kn' kv') ∧ post  kn' kv') := by
  refine zq_Mv_of (adl := (A_Kept_restore ad)) (cc := zb_Kept_restore) (maxL := 3) (own := zR_Kept) rfl (by decide) rfl rfl (Nat.le_of_ble_eq_true rfl) ?_
  intro p e s m AV below meth c A QQ H locs ls hx hb hml hown ht hE hA hret hP hD hS hl
  have hK := hE.1
  have hl : lv_has ls 3 [(0, .ref (ad 22)), (1, .int p0), (2, .int p1)] := hl
  refine lv_aload_n hx hb zd_Kept_restore_0 rfl (lv_at hl 0 rfl) ?_
  refine lv_iload_n hx hb zd_Kept_restore_1 rfl (lv_at hl 1 rfl) ?_
  refine va_put (D := D) (ci := 4) (v := .int p0) (ty := .int) (C := zR_Kept) (T := zF_Kept) (N := 4) hx hb ht zi_Kept zt_Kept zt_Kept_ok zn_Kept hown hK hP hD hS 0 rfl rfl 2 (by decide) (ht _ zw_172) (fun _ h9 => h9) rfl (by decide +kernel) rfl rfl (Nat.le_of_ble_eq_true rfl) zd_Kept_restore_2 (fun H locs hP hD hS => ?_)
  have hP : va_P D vwCl (W_Kept_restore kT ad p0 kv) H := hP
  have hD : va_D A (W_Kept_restore kT ad p0 kv) := hD
  refine lv_aload_n hx hb zd_Kept_restore_5 rfl (lv_at hl 0 rfl) ?_
  refine lv_iload_n hx hb zd_Kept_restore_6 rfl (lv_at hl 2 rfl) ?_
  refine va_put (D := D) (ci := 4) (v := .int p1) (ty := .int) (C := zR_Kept) (T := zF_Kept) (N := 4) hx hb ht zi_Kept zt_Kept zt_Kept_ok zn_Kept hown hK hP hD hS 0 rfl rfl 3 (by decide) (ht _ zw_175) (fun _ h9 => h9) rfl (by decide +kernel) rfl rfl (Nat.le_of_ble_eq_true rfl) zd_Kept_restore_7 (fun H locs hP hD hS => ?_)
  have hP : va_P D vwCl (W_Kept_restore kT ad p0 p1) H := hP
  have hD : va_D A (W_Kept_restore kT ad p0 p1) := hD
  exact hret  _ H locs 10 ls ⟨p0, p1, rfl, h⟩ hP rfl hS zd_Kept_restore_10
end
section
abbrev W_Lines_has (kT : Nat → ClassId) (ad : Nat → Nat)  : va_W := [(ad 25, .inr (5, [.ref (ad 26), .ref (ad 27)]))]
abbrev A_Lines_has (ad : Nat → Nat) : List Nat := [ad 25]
def wp_Lines_has  (p0 : Int32) (post : Int32 → Prop) : Prop := (if p0 < 0 then post 0  else (if 8 ≤ p0 then post 0  else post 1 ))
set_option maxHeartbeats 4000000 in
set_option maxRecDepth 100000 in
theorem c_Lines_has (l : Launch) (D : va_G) (kT : Nat → ClassId) (ad : Nat → Nat)  (p0 : Int32) (post : Int32 → Prop) (h : wp_Lines_has  p0 post) : zq_Mi l zy_Lines_has zs_Lines_has ({ frames := 0, cells := 0, slots := 0, locals := 0 }) D kT [.ref (ad 25), .int p0] (W_Lines_has kT ad ) (fun r w' => w' = (W_Lines_has kT ad ) ∧ post r ) := by
  refine zq_Mz_of (adl := (A_Lines_has ad)) (cc := zb_Lines_has) (maxL := 2) (own := zR_Lines) rfl (by decide) rfl rfl (Nat.le_of_ble_eq_true rfl) ?_
  intro p e s m AV below meth c A QQ H locs ls hx hb hml hown ht hE hA hret hP hD hS hl
  have hK := hE.1
  have hl : lv_has ls 2 [(0, .ref (ad 25)), (1, .int p0)] := hl
  refine lv_iload_n hx hb zd_Lines_has_0 rfl (lv_at hl 1 rfl) ?_
  refine lv_if_lt (tgt := 14) hx hb zd_Lines_has_1 (by decide) (fun c_1 => ?_) (fun c_1 => ?_)
  · have h := zq_it c_1 h
    refine lv_iconst (v := 0) hx hb zd_Lines_has_14 (by decide) ?_
    exact hret 0 rfl _ H locs 15 ls ⟨rfl, h⟩ hP rfl hS zd_Lines_has_15
  · have h := zq_if c_1 h
    refine lv_iload_n hx hb zd_Lines_has_4 rfl (lv_at hl 1 rfl) ?_
    refine lv_bipush (v := 8) hx hb zd_Lines_has_5 (by decide) ?_
    refine lv_icmp_ge (tgt := 14) hx hb zd_Lines_has_7 (by decide) (fun c_2 => ?_) (fun c_2 => ?_)
    · have h := zq_it c_2 h
      refine lv_iconst (v := 0) hx hb zd_Lines_has_14 (by decide) ?_
      exact hret 0 rfl _ H locs 15 ls ⟨rfl, h⟩ hP rfl hS zd_Lines_has_15
    · have h := zq_if c_2 h
      refine lv_iconst (v := 1) hx hb zd_Lines_has_10 (by decide) ?_
      refine lv_goto (tgt := 15) hx hb zd_Lines_has_11 (by decide) ?_
      exact hret 1 rfl _ H locs 15 ls ⟨rfl, h⟩ hP rfl hS zd_Lines_has_15
abbrev W_Lines_turn (kT : Nat → ClassId) (ad : Nat → Nat) (lo : Nat → Int32) : va_W := [(ad 25, .inr (5, [.ref (ad 26), .ref (ad 27)])), (ad 26, .inl (kT 2, 8, .inl lo))]
abbrev A_Lines_turn (ad : Nat → Nat) : List Nat := [ad 25, ad 26]
def wp_Lines_turn (lo : Nat → Int32) (p0 : Int32) (p1 : Int32) (post : Int32 → (Nat → Int32) → Prop) : Prop := vp_in p0 8 ∧ vp_in p0 8 ∧ zq_bz (lo p0.toNatClampNeg) ∧ post (lo p0.toNatClampNeg) (upd lo p0.toNatClampNeg (vp_nar .boolean p1))
set_option maxHeartbeats 4000000 in
set_option maxRecDepth 100000 in
theorem c_Lines_turn (l : Launch) (D : va_G) (kT : Nat → ClassId) (ad : Nat → Nat) (lo : Nat → Int32) (p0 : Int32) (p1 : Int32) (post : Int32 → (Nat → Int32) → Prop) (h : wp_Lines_turn lo p0 p1 post) : zq_Mi l zy_Lines_turn zs_Lines_turn ({ frames := 0, cells := 0, slots := 0, locals := 0 }) D kT [.ref (ad 25), .int p0, .int p1] (W_Lines_turn kT ad lo) (fun r w' => ∃ (lo' : Nat → Int32), w' = (W_Lines_turn kT ad lo') ∧ post r lo') := by
  refine zq_Mz_of (adl := (A_Lines_turn ad)) (cc := zb_Lines_turn) (maxL := 4) (own := zR_Lines) rfl (by decide) rfl rfl (Nat.le_of_ble_eq_true rfl) ?_
  intro p e s m AV below meth c A QQ H locs ls hx hb hml hown ht hE hA hret hP hD hS hl
  have hK := hE.1
  have hl : lv_has ls 4 [(0, .ref (ad 25)), (1, .int p0), (2, .int p1)] := hl
  refine lv_aload_n hx hb zd_Lines_turn_0 rfl (lv_at hl 0 rfl) ?_
  refine va_get (D := D) (ci := 5) (v := .ref (ad 26)) (C := zR_Lines) (T := zF_Lines) (N := 2) hx hb ht zi_Lines hown hK hP 0 rfl rfl 0 (by decide) (ht _ zw_176) (fun _ h9 => h9) rfl zd_Lines_turn_1 ?_
  refine lv_iload_n hx hb zd_Lines_turn_4 rfl (lv_at hl 1 rfl) ?_
  obtain ⟨hi_1, h⟩ := h
  refine zq_a_zald (D := D) hx hb hK hP 1 2 rfl rfl hi_1 rfl zd_Lines_turn_5 ?_
  refine lv_istore_n (lv' := [(3, .int (lo p0.toNatClampNeg)), (0, .ref (ad 25)), (1, .int p0), (2, .int p1)]) hx hb zd_Lines_turn_6 rfl hl (by decide) rfl (fun ls hl => ?_)
  refine lv_aload_n hx hb zd_Lines_turn_7 rfl (lv_at hl 1 rfl) ?_
  refine va_get (D := D) (ci := 5) (v := .ref (ad 26)) (C := zR_Lines) (T := zF_Lines) (N := 2) hx hb ht zi_Lines hown hK hP 0 rfl rfl 0 (by decide) (ht _ zw_176) (fun _ h9 => h9) rfl zd_Lines_turn_8 ?_
  refine lv_iload_n hx hb zd_Lines_turn_11 rfl (lv_at hl 2 rfl) ?_
  refine lv_iload_n hx hb zd_Lines_turn_12 rfl (lv_at hl 3 rfl) ?_
  obtain ⟨hi_2, h⟩ := h
  refine zq_a_zast (D := D) hx hb hK hP hD hS 1 2 rfl rfl hi_2 rfl zd_Lines_turn_13 (fun H locs hP hD hS => ?_)
  have hP : va_P D vwCl (W_Lines_turn kT ad (upd lo p0.toNatClampNeg (vp_nar .boolean p1))) H := hP
  have hD : va_D A (W_Lines_turn kT ad (upd lo p0.toNatClampNeg (vp_nar .boolean p1))) := hD
  refine lv_iload_n hx hb zd_Lines_turn_14 rfl (lv_at hl 0 rfl) ?_
  obtain ⟨hb_3, h⟩ := h
  exact hret (lo p0.toNatClampNeg) (zq_bzn hb_3) _ H locs 15 ls ⟨(upd lo p0.toNatClampNeg (vp_nar .boolean p1)), rfl, h⟩ hP rfl hS zd_Lines_turn_15
abbrev W_Lines_giveRank (kT : Nat → ClassId) (ad : Nat → Nat) (lr : Nat → Int32) : va_W := [(ad 25, .inr (5, [.ref (ad 26), .ref (ad 27)])), (ad 27, .inl (kT 0, 8, .inl lr))]
abbrev A_Lines_giveRank (ad : Nat → Nat) : List Nat := [ad 25, ad 27]
def wp_Lines_giveRank (lr : Nat → Int32) (p0 : Int32) (p1 : Int32) (post : Int32 → (Nat → Int32) → Prop) : Prop := vp_in p0 8 ∧ vp_in p0 8 ∧ post (lr p0.toNatClampNeg) (upd lr p0.toNatClampNeg p1)
set_option maxHeartbeats 4000000 in
set_option maxRecDepth 100000 in
theorem c_Lines_giveRank (l : Launch) (D : va_G) (kT : Nat → ClassId) (ad : Nat → Nat) (lr : Nat → Int32) (p0 : Int32) (p1 : Int32) (post : Int32 → (Nat → Int32) → Prop) (h : wp_Lines_giveRank lr p0 p1 post) : zq_Mi l zy_Lines_giveRank zs_Lines_giveRank ({ frames := 0, cells := 0, slots := 0, locals := 0 }) D kT [.ref (ad 25), .int p0, .int p1] (W_Lines_giveRank kT ad lr) (fun r w' => ∃ (lr' : Nat → Int32), w' = (W_Lines_giveRank kT ad lr') ∧ post r lr') := by
  refine zq_Mi_of (adl := (A_Lines_giveRank ad)) (cc := zb_Lines_giveRank) (maxL := 4) (own := zR_Lines) rfl (by decide) rfl rfl (Nat.le_of_ble_eq_true rfl) ?_
  intro p e s m AV below meth c A QQ H locs ls hx hb hml hown ht hE hA hret hP hD hS hl
  have hK := hE.1
  have hl : lv_has ls 4 [(0, .ref (ad 25)), (1, .int p0), (2, .int p1)] := hl
  refine lv_aload_n hx hb zd_Lines_giveRank_0 rfl (lv_at hl 0 rfl) ?_
  refine va_get (D := D) (ci := 5) (v := .ref (ad 27)) (C := zR_Lines) (T := zF_Lines) (N := 2) hx hb ht zi_Lines hown hK hP 0 rfl rfl 1 (by decide) (ht _ zw_177) (fun _ h9 => h9) rfl zd_Lines_giveRank_1 ?_
  refine lv_iload_n hx hb zd_Lines_giveRank_4 rfl (lv_at hl 1 rfl) ?_
  obtain ⟨hi_1, h⟩ := h
  refine zq_a_iald (D := D) hx hb hK hP 1 0 rfl rfl hi_1 rfl zd_Lines_giveRank_5 ?_
  refine lv_istore_n (lv' := [(3, .int (lr p0.toNatClampNeg)), (0, .ref (ad 25)), (1, .int p0), (2, .int p1)]) hx hb zd_Lines_giveRank_6 rfl hl (by decide) rfl (fun ls hl => ?_)
  refine lv_aload_n hx hb zd_Lines_giveRank_7 rfl (lv_at hl 1 rfl) ?_
  refine va_get (D := D) (ci := 5) (v := .ref (ad 27)) (C := zR_Lines) (T := zF_Lines) (N := 2) hx hb ht zi_Lines hown hK hP 0 rfl rfl 1 (by decide) (ht _ zw_177) (fun _ h9 => h9) rfl zd_Lines_giveRank_8 ?_
  refine lv_iload_n hx hb zd_Lines_giveRank_11 rfl (lv_at hl 2 rfl) ?_
  refine lv_iload_n hx hb zd_Lines_giveRank_12 rfl (lv_at hl 3 rfl) ?_
  obtain ⟨hi_2, h⟩ := h
  refine zq_a_iast (D := D) hx hb hK hP hD hS 1 0 rfl rfl hi_2 rfl zd_Lines_giveRank_13 (fun H locs hP hD hS => ?_)
  have hP : va_P D vwCl (W_Lines_giveRank kT ad (upd lr p0.toNatClampNeg p1)) H := hP
  have hD : va_D A (W_Lines_giveRank kT ad (upd lr p0.toNatClampNeg p1)) := hD
  refine lv_iload_n hx hb zd_Lines_giveRank_14 rfl (lv_at hl 0 rfl) ?_
  exact hret (lr p0.toNatClampNeg)  _ H locs 15 ls ⟨(upd lr p0.toNatClampNeg p1), rfl, h⟩ hP rfl hS zd_Lines_giveRank_15
abbrev W_Lines_rankOf (kT : Nat → ClassId) (ad : Nat → Nat) (lr : Nat → Int32) : va_W := [(ad 25, .inr (5, [.ref (ad 26), .ref (ad 27)])), (ad 27, .inl (kT 0, 8, .inl lr))]
abbrev A_Lines_rankOf (ad : Nat → Nat) : List Nat := [ad 25, ad 27]
def wp_Lines_rankOf (lr : Nat → Int32) (p0 : Int32) (post : Int32 → Prop) : Prop := vp_in p0 8 ∧ post (lr p0.toNatClampNeg) 
set_option maxHeartbeats 4000000 in
set_option maxRecDepth 100000 in
theorem c_Lines_rankOf (l : Launch) (D : va_G) (kT : Nat → ClassId) (ad : Nat → Nat) (lr : Nat → Int32) (p0 : Int32) (post : Int32 → Prop) (h : wp_Lines_rankOf lr p0 post) : zq_Mi l zy_Lines_rankOf zs_Lines_rankOf ({ frames := 0, cells := 0, slots := 0, locals := 0 }) D kT [.ref (ad 25), .int p0] (W_Lines_rankOf kT ad lr) (fun r w' => w' = (W_Lines_rankOf kT ad lr) ∧ post r ) := by
  refine zq_Mi_of (adl := (A_Lines_rankOf ad)) (cc := zb_Lines_rankOf) (maxL := 2) (own := zR_Lines) rfl (by decide) rfl rfl (Nat.le_of_ble_eq_true rfl) ?_
  intro p e s m AV below meth c A QQ H locs ls hx hb hml hown ht hE hA hret hP hD hS hl
  have hK := hE.1
  have hl : lv_has ls 2 [(0, .ref (ad 25)), (1, .int p0)] := hl
  refine lv_aload_n hx hb zd_Lines_rankOf_0 rfl (lv_at hl 0 rfl) ?_
  refine va_get (D := D) (ci := 5) (v := .ref (ad 27)) (C := zR_Lines) (T := zF_Lines) (N := 2) hx hb ht zi_Lines hown hK hP 0 rfl rfl 1 (by decide) (ht _ zw_177) (fun _ h9 => h9) rfl zd_Lines_rankOf_1 ?_
  refine lv_iload_n hx hb zd_Lines_rankOf_4 rfl (lv_at hl 1 rfl) ?_
  obtain ⟨hi_1, h⟩ := h
  refine zq_a_iald (D := D) hx hb hK hP 1 0 rfl rfl hi_1 rfl zd_Lines_rankOf_5 ?_
  exact hret (lr p0.toNatClampNeg)  _ H locs 6 ls ⟨rfl, h⟩ hP rfl hS zd_Lines_rankOf_6
abbrev W_Lines_mostUrgent (kT : Nat → ClassId) (ad : Nat → Nat) (lo : Nat → Int32) (lr : Nat → Int32) : va_W := [(ad 25, .inr (5, [.ref (ad 26), .ref (ad 27)])), (ad 26, .inl (kT 2, 8, .inl lo)), (ad 27, .inl (kT 0, 8, .inl lr))]
abbrev A_Lines_mostUrgent (ad : Nat → Nat) : List Nat := [ad 25, ad 26, ad 27]
def wp_Lines_mostUrgent_7 (lo : Nat → Int32) (lr : Nat → Int32) (post : Int32 → Prop) : Nat → Int32 → Int32 → Int32 → Prop
  | 0 => fun _ _ _ => False
  | n + 1 => fun y2 y3 y4 => (if 8 ≤ y4 then post y2  else vp_in y4 8 ∧ (if (lo y4.toNatClampNeg) = 0 then wp_Lines_mostUrgent_7 lo lr post n y2 y3 (y4 + 1) else vp_in y4 8 ∧ (if (lr y4.toNatClampNeg) ≤ y3 then wp_Lines_mostUrgent_7 lo lr post n y2 y3 (y4 + 1) else vp_in y4 8 ∧ wp_Lines_mostUrgent_7 lo lr post n y4 (lr y4.toNatClampNeg) (y4 + 1))))
def wp_Lines_mostUrgent (lo : Nat → Int32) (lr : Nat → Int32) (p0 : Int32) (post : Int32 → Prop) : Prop := ∃ n, wp_Lines_mostUrgent_7 lo lr post n (-1) p0 0
set_option maxHeartbeats 4000000 in
set_option maxRecDepth 100000 in
theorem c_Lines_mostUrgent (l : Launch) (D : va_G) (kT : Nat → ClassId) (ad : Nat → Nat) (lo : Nat → Int32) (lr : Nat → Int32) (p0 : Int32) (post : Int32 → Prop) (h : wp_Lines_mostUrgent lo lr p0 post) : zq_Mi l zy_Lines_mostUrgent zs_Lines_mostUrgent ({ frames := 0, cells := 0, slots := 0, locals := 0 }) D kT [.ref (ad 25), .int p0] (W_Lines_mostUrgent kT ad lo lr) (fun r w' => w' = (W_Lines_mostUrgent kT ad lo lr) ∧ post r ) := by
  refine zq_Mi_of (adl := (A_Lines_mostUrgent ad)) (cc := zb_Lines_mostUrgent) (maxL := 5) (own := zR_Lines) rfl (by decide) rfl rfl (Nat.le_of_ble_eq_true rfl) ?_
  intro p e s m AV below meth c A QQ H locs ls hx hb hml hown ht hE hA hret hP hD hS hl
  have hK := hE.1
  have hl : lv_has ls 5 [(0, .ref (ad 25)), (1, .int p0)] := hl
  have B7 : ∀ (n : Nat)  (y2 : Int32) (y3 : Int32) (y4 : Int32) (H : Heap) (locs : List Loc) (ls : Array Slot), wp_Lines_mostUrgent_7 lo lr post n y2 y3 y4 → va_P D vwCl (W_Lines_mostUrgent kT ad lo lr) H → va_D A (W_Lines_mostUrgent kT ad lo lr) → va_S A s.heap H locs → lv_has ls 5 [(0, .ref (ad 25)), (2, .int y2), (3, .int y3), (4, .int y4)] → W p l e ({ frames := 0, cells := 0, slots := 0, locals := 0 }) s m AV below meth c H locs 0 0 QQ (F0 m 7 ls []) := by
    intro n
    induction n with
    | zero =>
      intro y2 y3 y4 H locs ls h
      exact h.elim
    | succ n ih =>
      intro y2 y3 y4 H locs ls h hP hD hS hl
      refine lv_iload hx hb zd_Lines_mostUrgent_7 (lv_at hl 3 rfl) ?_
      refine lv_bipush (v := 8) hx hb zd_Lines_mostUrgent_9 (by decide) ?_
      refine lv_icmp_ge (tgt := 52) hx hb zd_Lines_mostUrgent_11 (by decide) (fun c_1 => ?_) (fun c_1 => ?_)
      · have h := zq_it c_1 h
        refine lv_iload_n hx hb zd_Lines_mostUrgent_52 rfl (lv_at hl 1 rfl) ?_
        exact hret y2  _ H locs 53 ls ⟨rfl, h⟩ hP rfl hS zd_Lines_mostUrgent_53
      · have h := zq_if c_1 h
        refine lv_aload_n hx hb zd_Lines_mostUrgent_14 rfl (lv_at hl 0 rfl) ?_
        refine va_get (D := D) (ci := 5) (v := .ref (ad 26)) (C := zR_Lines) (T := zF_Lines) (N := 2) hx hb ht zi_Lines hown hK hP 0 rfl rfl 0 (by decide) (ht _ zw_176) (fun _ h9 => h9) rfl zd_Lines_mostUrgent_15 ?_
        refine lv_iload hx hb zd_Lines_mostUrgent_18 (lv_at hl 3 rfl) ?_
        obtain ⟨hi_2, h⟩ := h
        refine zq_a_zald (D := D) hx hb hK hP 1 2 rfl rfl hi_2 rfl zd_Lines_mostUrgent_20 ?_
        refine lv_if_eq (tgt := 46) hx hb zd_Lines_mostUrgent_21 (by decide) (fun c_3 => ?_) (fun c_3 => ?_)
        · have h := zq_it c_3 h
          refine lv_iinc (v := (y4 + 1)) (lv' := [(4, .int (y4 + 1)), (0, .ref (ad 25)), (2, .int y2), (3, .int y3)]) hx hb zd_Lines_mostUrgent_46 hl (k := 3) rfl rfl (by decide) rfl (fun ls hl => ?_)
          refine lv_goto (tgt := 7) hx hb zd_Lines_mostUrgent_49 (by decide) ?_
          exact ih y2 y3 (y4 + 1) H locs ls h hP hD hS (lv_sub hl [1, 2, 3, 0] rfl)
        · have h := zq_if c_3 h
          refine lv_aload_n hx hb zd_Lines_mostUrgent_24 rfl (lv_at hl 0 rfl) ?_
          refine va_get (D := D) (ci := 5) (v := .ref (ad 27)) (C := zR_Lines) (T := zF_Lines) (N := 2) hx hb ht zi_Lines hown hK hP 0 rfl rfl 1 (by decide) (ht _ zw_177) (fun _ h9 => h9) rfl zd_Lines_mostUrgent_25 ?_
          refine lv_iload hx hb zd_Lines_mostUrgent_28 (lv_at hl 3 rfl) ?_
          obtain ⟨hi_4, h⟩ := h
          refine zq_a_iald (D := D) hx hb hK hP 2 0 rfl rfl hi_4 rfl zd_Lines_mostUrgent_30 ?_
          refine lv_iload_n hx hb zd_Lines_mostUrgent_31 rfl (lv_at hl 2 rfl) ?_
          refine lv_icmp_le (tgt := 46) hx hb zd_Lines_mostUrgent_32 (by decide) (fun c_5 => ?_) (fun c_5 => ?_)
          · have h := zq_it c_5 h
            refine lv_iinc (v := (y4 + 1)) (lv' := [(4, .int (y4 + 1)), (0, .ref (ad 25)), (2, .int y2), (3, .int y3)]) hx hb zd_Lines_mostUrgent_46 hl (k := 3) rfl rfl (by decide) rfl (fun ls hl => ?_)
            refine lv_goto (tgt := 7) hx hb zd_Lines_mostUrgent_49 (by decide) ?_
            exact ih y2 y3 (y4 + 1) H locs ls h hP hD hS (lv_sub hl [1, 2, 3, 0] rfl)
          · have h := zq_if c_5 h
            refine lv_iload hx hb zd_Lines_mostUrgent_35 (lv_at hl 3 rfl) ?_
            refine lv_istore_n (lv' := [(2, .int y4), (0, .ref (ad 25)), (3, .int y3), (4, .int y4)]) hx hb zd_Lines_mostUrgent_37 rfl hl (by decide) rfl (fun ls hl => ?_)
            refine lv_aload_n hx hb zd_Lines_mostUrgent_38 rfl (lv_at hl 1 rfl) ?_
            refine va_get (D := D) (ci := 5) (v := .ref (ad 27)) (C := zR_Lines) (T := zF_Lines) (N := 2) hx hb ht zi_Lines hown hK hP 0 rfl rfl 1 (by decide) (ht _ zw_177) (fun _ h9 => h9) rfl zd_Lines_mostUrgent_39 ?_
            refine lv_iload hx hb zd_Lines_mostUrgent_42 (lv_at hl 3 rfl) ?_
            obtain ⟨hi_6, h⟩ := h
            refine zq_a_iald (D := D) hx hb hK hP 2 0 rfl rfl hi_6 rfl zd_Lines_mostUrgent_44 ?_
            refine lv_istore_n (lv' := [(3, .int (lr y4.toNatClampNeg)), (2, .int y4), (0, .ref (ad 25)), (4, .int y4)]) hx hb zd_Lines_mostUrgent_45 rfl hl (by decide) rfl (fun ls hl => ?_)
            refine lv_iinc (v := (y4 + 1)) (lv' := [(4, .int (y4 + 1)), (3, .int (lr y4.toNatClampNeg)), (2, .int y4), (0, .ref (ad 25))]) hx hb zd_Lines_mostUrgent_46 hl (k := 3) rfl rfl (by decide) rfl (fun ls hl => ?_)
            refine lv_goto (tgt := 7) hx hb zd_Lines_mostUrgent_49 (by decide) ?_
            exact ih y4 (lr y4.toNatClampNeg) (y4 + 1) H locs ls h hP hD hS (lv_sub hl [3, 2, 1, 0] rfl)
  refine lv_iconst (v := (-1)) hx hb zd_Lines_mostUrgent_0 (by decide) ?_
  refine lv_istore_n (lv' := [(2, .int (-1)), (0, .ref (ad 25)), (1, .int p0)]) hx hb zd_Lines_mostUrgent_1 rfl hl (by decide) rfl (fun ls hl => ?_)
  refine lv_iload_n hx hb zd_Lines_mostUrgent_2 rfl (lv_at hl 2 rfl) ?_
  refine lv_istore_n (lv' := [(3, .int p0), (2, .int (-1)), (0, .ref (ad 25)), (1, .int p0)]) hx hb zd_Lines_mostUrgent_3 rfl hl (by decide) rfl (fun ls hl => ?_)
  refine lv_iconst (v := 0) hx hb zd_Lines_mostUrgent_4 (by decide) ?_
  refine lv_istore (lv' := [(4, .int 0), (3, .int p0), (2, .int (-1)), (0, .ref (ad 25)), (1, .int p0)]) hx hb zd_Lines_mostUrgent_5 hl (by decide) rfl (fun ls hl => ?_)
  obtain ⟨n, h⟩ := h
  exact B7 n (-1) p0 0 H locs ls h hP hD hS (lv_sub hl [3, 2, 1, 0] rfl)
end
section
abbrev W_Writes_clear (kT : Nat → ClassId) (ad : Nat → Nat) (wn : Int32) : va_W := [(ad 28, .inr (6, [.ref (ad 1), .ref (ad 5), .ref (ad 29), .ref (ad 30), .ref (ad 31), .int wn]))]
abbrev A_Writes_clear (ad : Nat → Nat) : List Nat := [ad 28]
def wp_Writes_clear (wn : Int32)  (post : Int32 → Prop) : Prop := post  0
set_option maxHeartbeats 4000000 in
set_option maxRecDepth 100000 in
theorem c_Writes_clear (l : Launch) (D : va_G) (kT : Nat → ClassId) (ad : Nat → Nat) (wn : Int32)  (post : Int32 → Prop) (h : wp_Writes_clear wn  post) : zq_Mv l zy_Writes_clear zs_Writes_clear ({ frames := 0, cells := 0, slots := 0, locals := 0 }) D kT [.ref (ad 28)] (W_Writes_clear kT ad wn) (fun w' => ∃ (wn' : Int32), w' = (W_Writes_clear kT ad wn') ∧ post  wn') := by
  refine zq_Mv_of (adl := (A_Writes_clear ad)) (cc := zb_Writes_clear) (maxL := 1) (own := zR_Writes) rfl (by decide) rfl rfl (Nat.le_of_ble_eq_true rfl) ?_
  intro p e s m AV below meth c A QQ H locs ls hx hb hml hown ht hE hA hret hP hD hS hl
  have hK := hE.1
  have hl : lv_has ls 1 [(0, .ref (ad 28))] := hl
  refine lv_aload_n hx hb zd_Writes_clear_0 rfl (lv_at hl 0 rfl) ?_
  refine lv_iconst (v := 0) hx hb zd_Writes_clear_1 (by decide) ?_
  refine va_put (D := D) (ci := 6) (v := .int 0) (ty := .int) (C := zR_Writes) (T := zF_Writes) (N := 6) hx hb ht zi_Writes zt_Writes zt_Writes_ok zn_Writes hown hK hP hD hS 0 rfl rfl 5 (by decide) (ht _ zw_178) (fun _ h9 => h9) rfl (by decide +kernel) rfl rfl (Nat.le_of_ble_eq_true rfl) zd_Writes_clear_2 (fun H locs hP hD hS => ?_)
  have hP : va_P D vwCl (W_Writes_clear kT ad 0) H := hP
  have hD : va_D A (W_Writes_clear kT ad 0) := hD
  exact hret  _ H locs 5 ls ⟨0, rfl, h⟩ hP rfl hS zd_Writes_clear_5
abbrev W_Writes_note (kT : Nat → ClassId) (ad : Nat → Nat) (wn : Int32) (wf : Nat → Int32) (wt : Nat → Int32) (wv : Nat → Int64) : va_W := [(ad 28, .inr (6, [.ref (ad 1), .ref (ad 5), .ref (ad 29), .ref (ad 30), .ref (ad 31), .int wn])), (ad 29, .inl (kT 0, 200, .inl wf)), (ad 30, .inl (kT 0, 200, .inl wt)), (ad 31, .inl (kT 1, 200, .inr (.inl wv)))]
abbrev A_Writes_note (ad : Nat → Nat) : List Nat := [ad 28, ad 29, ad 30, ad 31]
def wp_Writes_note (wn : Int32) (wf : Nat → Int32) (wt : Nat → Int32) (wv : Nat → Int64) (p0 : Int32) (p1 : Int32) (p2 : Int64) (post : Int32 → (Nat → Int32) → (Nat → Int32) → (Nat → Int64) → Prop) : Prop := (if wn < 200 then vp_in wn 200 ∧ vp_in wn 200 ∧ vp_in wn 200 ∧ post  (wn + 1) (upd wf wn.toNatClampNeg p0) (upd wt wn.toNatClampNeg p1) (vp_updL wv wn.toNatClampNeg p2) else post  wn wf wt wv)
set_option maxHeartbeats 4000000 in
set_option maxRecDepth 100000 in
theorem c_Writes_note (l : Launch) (D : va_G) (kT : Nat → ClassId) (ad : Nat → Nat) (wn : Int32) (wf : Nat → Int32) (wt : Nat → Int32) (wv : Nat → Int64) (p0 : Int32) (p1 : Int32) (p2 : Int64) (post : Int32 → (Nat → Int32) → (Nat → Int32) → (Nat → Int64) → Prop) (h : wp_Writes_note wn wf wt wv p0 p1 p2 post) : zq_Mv l zy_Writes_note zs_Writes_note ({ frames := 0, cells := 0, slots := 0, locals := 0 }) D kT [.ref (ad 28), .int p0, .int p1, .long p2] (W_Writes_note kT ad wn wf wt wv) (fun w' => ∃ (wn' : Int32) (wf' : Nat → Int32) (wt' : Nat → Int32) (wv' : Nat → Int64), w' = (W_Writes_note kT ad wn' wf' wt' wv') ∧ post  wn' wf' wt' wv') := by
  refine zq_Mv_of (adl := (A_Writes_note ad)) (cc := zb_Writes_note) (maxL := 5) (own := zR_Writes) rfl (by decide) rfl rfl (Nat.le_of_ble_eq_true rfl) ?_
  intro p e s m AV below meth c A QQ H locs ls hx hb hml hown ht hE hA hret hP hD hS hl
  have hK := hE.1
  have hl : lv_has ls 5 [(0, .ref (ad 28)), (1, .int p0), (2, .int p1), (3, .long p2)] := hl
  refine lv_aload_n hx hb zd_Writes_note_0 rfl (lv_at hl 0 rfl) ?_
  refine va_get (D := D) (ci := 6) (v := .int wn) (C := zR_Writes) (T := zF_Writes) (N := 6) hx hb ht zi_Writes hown hK hP 0 rfl rfl 5 (by decide) (ht _ zw_178) (fun _ h9 => h9) rfl zd_Writes_note_1 ?_
  refine lv_sipush (v := 200) hx hb zd_Writes_note_4 (by decide) ?_
  refine lv_icmp_lt (tgt := 11) hx hb zd_Writes_note_7 (by decide) (fun c_1 => ?_) (fun c_1 => ?_)
  · have h := zq_it c_1 h
    refine lv_aload_n hx hb zd_Writes_note_11 rfl (lv_at hl 0 rfl) ?_
    refine va_get (D := D) (ci := 6) (v := .ref (ad 29)) (C := zR_Writes) (T := zF_Writes) (N := 6) hx hb ht zi_Writes hown hK hP 0 rfl rfl 2 (by decide) (ht _ zw_179) (fun _ h9 => h9) rfl zd_Writes_note_12 ?_
    refine lv_aload_n hx hb zd_Writes_note_15 rfl (lv_at hl 0 rfl) ?_
    refine va_get (D := D) (ci := 6) (v := .int wn) (C := zR_Writes) (T := zF_Writes) (N := 6) hx hb ht zi_Writes hown hK hP 0 rfl rfl 5 (by decide) (ht _ zw_178) (fun _ h9 => h9) rfl zd_Writes_note_16 ?_
    refine lv_iload_n hx hb zd_Writes_note_19 rfl (lv_at hl 1 rfl) ?_
    obtain ⟨hi_2, h⟩ := h
    refine zq_a_iast (D := D) hx hb hK hP hD hS 1 0 rfl rfl hi_2 rfl zd_Writes_note_20 (fun H locs hP hD hS => ?_)
    have hP : va_P D vwCl (W_Writes_note kT ad wn (upd wf wn.toNatClampNeg p0) wt wv) H := hP
    have hD : va_D A (W_Writes_note kT ad wn (upd wf wn.toNatClampNeg p0) wt wv) := hD
    refine lv_aload_n hx hb zd_Writes_note_21 rfl (lv_at hl 0 rfl) ?_
    refine va_get (D := D) (ci := 6) (v := .ref (ad 30)) (C := zR_Writes) (T := zF_Writes) (N := 6) hx hb ht zi_Writes hown hK hP 0 rfl rfl 3 (by decide) (ht _ zw_180) (fun _ h9 => h9) rfl zd_Writes_note_22 ?_
    refine lv_aload_n hx hb zd_Writes_note_25 rfl (lv_at hl 0 rfl) ?_
    refine va_get (D := D) (ci := 6) (v := .int wn) (C := zR_Writes) (T := zF_Writes) (N := 6) hx hb ht zi_Writes hown hK hP 0 rfl rfl 5 (by decide) (ht _ zw_178) (fun _ h9 => h9) rfl zd_Writes_note_26 ?_
    refine lv_iload_n hx hb zd_Writes_note_29 rfl (lv_at hl 2 rfl) ?_
    obtain ⟨hi_3, h⟩ := h
    refine zq_a_iast (D := D) hx hb hK hP hD hS 2 0 rfl rfl hi_3 rfl zd_Writes_note_30 (fun H locs hP hD hS => ?_)
    have hP : va_P D vwCl (W_Writes_note kT ad wn (upd wf wn.toNatClampNeg p0) (upd wt wn.toNatClampNeg p1) wv) H := hP
    have hD : va_D A (W_Writes_note kT ad wn (upd wf wn.toNatClampNeg p0) (upd wt wn.toNatClampNeg p1) wv) := hD
    refine lv_aload_n hx hb zd_Writes_note_31 rfl (lv_at hl 0 rfl) ?_
    refine va_get (D := D) (ci := 6) (v := .ref (ad 31)) (C := zR_Writes) (T := zF_Writes) (N := 6) hx hb ht zi_Writes hown hK hP 0 rfl rfl 4 (by decide) (ht _ zw_181) (fun _ h9 => h9) rfl zd_Writes_note_32 ?_
    refine lv_aload_n hx hb zd_Writes_note_35 rfl (lv_at hl 0 rfl) ?_
    refine va_get (D := D) (ci := 6) (v := .int wn) (C := zR_Writes) (T := zF_Writes) (N := 6) hx hb ht zi_Writes hown hK hP 0 rfl rfl 5 (by decide) (ht _ zw_178) (fun _ h9 => h9) rfl zd_Writes_note_36 ?_
    refine lv_lload_n hx hb zd_Writes_note_39 rfl (lv_at hl 3 rfl) ?_
    obtain ⟨hi_4, h⟩ := h
    refine zq_a_last (D := D) hx hb hK hP hD hS 3 1 rfl rfl hi_4 rfl zd_Writes_note_40 (fun H locs hP hD hS => ?_)
    have hP : va_P D vwCl (W_Writes_note kT ad wn (upd wf wn.toNatClampNeg p0) (upd wt wn.toNatClampNeg p1) (vp_updL wv wn.toNatClampNeg p2)) H := hP
    have hD : va_D A (W_Writes_note kT ad wn (upd wf wn.toNatClampNeg p0) (upd wt wn.toNatClampNeg p1) (vp_updL wv wn.toNatClampNeg p2)) := hD
    refine lv_aload_n hx hb zd_Writes_note_41 rfl (lv_at hl 0 rfl) ?_
    refine lv_dup hx hb zd_Writes_note_42 rfl ?_
    refine va_get (D := D) (ci := 6) (v := .int wn) (C := zR_Writes) (T := zF_Writes) (N := 6) hx hb ht zi_Writes hown hK hP 0 rfl rfl 5 (by decide) (ht _ zw_178) (fun _ h9 => h9) rfl zd_Writes_note_43 ?_
    refine lv_iconst (v := 1) hx hb zd_Writes_note_46 (by decide) ?_
    refine lv_iadd hx hb zd_Writes_note_47 ?_
    refine va_put (D := D) (ci := 6) (v := .int (wn + 1)) (ty := .int) (C := zR_Writes) (T := zF_Writes) (N := 6) hx hb ht zi_Writes zt_Writes zt_Writes_ok zn_Writes hown hK hP hD hS 0 rfl rfl 5 (by decide) (ht _ zw_178) (fun _ h9 => h9) rfl (by decide +kernel) rfl rfl (Nat.le_of_ble_eq_true rfl) zd_Writes_note_48 (fun H locs hP hD hS => ?_)
    have hP : va_P D vwCl (W_Writes_note kT ad (wn + 1) (upd wf wn.toNatClampNeg p0) (upd wt wn.toNatClampNeg p1) (vp_updL wv wn.toNatClampNeg p2)) H := hP
    have hD : va_D A (W_Writes_note kT ad (wn + 1) (upd wf wn.toNatClampNeg p0) (upd wt wn.toNatClampNeg p1) (vp_updL wv wn.toNatClampNeg p2)) := hD
    exact hret  _ H locs 51 ls ⟨(wn + 1), (upd wf wn.toNatClampNeg p0), (upd wt wn.toNatClampNeg p1), (vp_updL wv wn.toNatClampNeg p2), rfl, h⟩ hP rfl hS zd_Writes_note_51
  · have h := zq_if c_1 h
    exact hret  _ H locs 10 ls ⟨wn, wf, wt, wv, rfl, h⟩ hP rfl hS zd_Writes_note_10
abbrev W_Writes_noteReverse (kT : Nat → ClassId) (ad : Nat → Nat) (rn : Int32) (rv : Nat → Int64) (rm : Nat → Int32) (bc : Nat → Int32) (wn : Int32) (wf : Nat → Int32) (wt : Nat → Int32) (wv : Nat → Int64) : va_W := [(ad 1, .inr (0, [.ref (ad 2), .ref (ad 3), .ref (ad 4), .int rn])), (ad 3, .inl (kT 1, 24, .inr (.inl rv))), (ad 4, .inl (kT 2, 24, .inl rm)), (ad 5, .inr (1, [.ref (ad 6)])), (ad 6, .inl (kT 3, 4096, .inl bc)), (ad 28, .inr (6, [.ref (ad 1), .ref (ad 5), .ref (ad 29), .ref (ad 30), .ref (ad 31), .int wn])), (ad 29, .inl (kT 0, 200, .inl wf)), (ad 30, .inl (kT 0, 200, .inl wt)), (ad 31, .inl (kT 1, 200, .inr (.inl wv)))]
abbrev A_Writes_noteReverse (ad : Nat → Nat) : List Nat := [ad 1, ad 3, ad 4, ad 5, ad 6, ad 28, ad 29, ad 30, ad 31]
def wp_Writes_noteReverse_63 (rn : Int32) (rv : Nat → Int64) (rm : Nat → Int32) (bc : Nat → Int32) (wn : Int32) (wf : Nat → Int32) (wt : Nat → Int32) (wv : Nat → Int64) (y2 : Int32) (z0 : Int32) (post : Int32 → (Nat → Int32) → (Nat → Int32) → (Nat → Int64) → Prop) : Prop := wp_Registers_valueOf rn rv y2 (fun r_17 => wp_Writes_note wn wf wt wv z0 y2 r_17 (fun wn_18 wf_19 wt_20 wv_21 => post  wn_18 wf_19 wt_20 wv_21))
def wp_Writes_noteReverse (rn : Int32) (rv : Nat → Int64) (rm : Nat → Int32) (bc : Nat → Int32) (wn : Int32) (wf : Nat → Int32) (wt : Nat → Int32) (wv : Nat → Int64) (p0 : Int32) (p1 : Int32) (post : Int32 → (Nat → Int32) → (Nat → Int32) → (Nat → Int64) → Prop) : Prop := (if p0 = 3 then wp_Bytes_byteOf bc p1 (fun r_11 => wp_Writes_note wn wf wt wv 3 p1 (zq_j_i2l r_11) (fun wn_12 wf_13 wt_14 wv_15 => post  wn_12 wf_13 wt_14 wv_15)) else (if p0 = 4 then wp_Bytes_wordOf bc p1 (fun r_5 => wp_Writes_note wn wf wt wv 4 p1 (zq_j_i2l r_5) (fun wn_6 wf_7 wt_8 wv_9 => post  wn_6 wf_7 wt_8 wv_9)) else wp_Registers_isMarked rn rm p1 (fun r_3 => (if r_3 = 0 then wp_Writes_noteReverse_63 rn rv rm bc wn wf wt wv p1 0 post else wp_Writes_noteReverse_63 rn rv rm bc wn wf wt wv p1 1 post))))
set_option maxHeartbeats 4000000 in
set_option maxRecDepth 100000 in
theorem c_Writes_noteReverse (l : Launch) (D : va_G) (kT : Nat → ClassId) (ad : Nat → Nat) (rn : Int32) (rv : Nat → Int64) (rm : Nat → Int32) (bc : Nat → Int32) (wn : Int32) (wf : Nat → Int32) (wt : Nat → Int32) (wv : Nat → Int64) (p0 : Int32) (p1 : Int32) (post : Int32 → (Nat → Int32) → (Nat → Int32) → (Nat → Int64) → Prop) (h : wp_Writes_noteReverse rn rv rm bc wn wf wt wv p0 p1 post) : zq_Mv l zy_Writes_noteReverse zs_Writes_noteReverse ({ frames := 1, cells := 0, slots := 0, locals := 24 }) D kT [.ref (ad 28), .int p0, .int p1] (W_Writes_noteReverse kT ad rn rv rm bc wn wf wt wv) (fun w' => ∃ (wn' : Int32) (wf' : Nat → Int32) (wt' : Nat → Int32) (wv' : Nat → Int64), w' = (W_Writes_noteReverse kT ad rn rv rm bc wn' wf' wt' wv') ∧ post  wn' wf' wt' wv') := by
  refine zq_Mv_of (adl := (A_Writes_noteReverse ad)) (cc := zb_Writes_noteReverse) (maxL := 3) (own := zR_Writes) rfl (by decide) rfl rfl (Nat.le_of_ble_eq_true rfl) ?_
  intro p e s m AV below meth c A QQ H locs ls hx hb hml hown ht hE hA hret hP hD hS hl
  have hK := hE.1
  have hl : lv_has ls 3 [(0, .ref (ad 28)), (1, .int p0), (2, .int p1)] := hl
  have B63 : ∀  (wn : Int32) (wf : Nat → Int32) (wt : Nat → Int32) (wv : Nat → Int64) (y2 : Int32) (z0 : Int32) (H : Heap) (locs : List Loc) (ls : Array Slot), wp_Writes_noteReverse_63 rn rv rm bc wn wf wt wv y2 z0 post → va_P D vwCl (W_Writes_noteReverse kT ad rn rv rm bc wn wf wt wv) H → va_D A (W_Writes_noteReverse kT ad rn rv rm bc wn wf wt wv) → va_S A s.heap H locs → lv_has ls 3 [(0, .ref (ad 28)), (2, .int y2)] → W p l e ({ frames := 1, cells := 0, slots := 0, locals := 24 }) s m AV below meth c H locs 0 0 QQ (F0 m 63 ls [.int z0, .ref (ad 28)]) := by
    intro wn wf wt wv y2 z0 H locs ls h hP hD hS hl
    refine lv_iload_n hx hb zd_Writes_noteReverse_63 rfl (lv_at hl 1 rfl) ?_
    refine lv_aload_n hx hb zd_Writes_noteReverse_64 rfl (lv_at hl 0 rfl) ?_
    refine va_get (D := D) (ci := 6) (v := .ref (ad 1)) (C := zR_Writes) (T := zF_Writes) (N := 6) hx hb ht zi_Writes hown hK hP 5 rfl rfl 0 (by decide) (ht _ zw_182) (fun _ h9 => h9) rfl zd_Writes_noteReverse_65 ?_
    refine lv_iload_n hx hb zd_Writes_noteReverse_68 rfl (lv_at hl 1 rfl) ?_
    refine zq_c_Vl (rest := [.int y2, .int z0, .ref (ad 28)]) (adl := (A_Writes_noteReverse ad)) (wr := [(ad 4, .inl (kT 2, 24, .inl rm)), (ad 5, .inr (1, [.ref (ad 6)])), (ad 6, .inl (kT 3, 4096, .inl bc)), (ad 28, .inr (6, [.ref (ad 1), .ref (ad 5), .ref (ad 29), .ref (ad 30), .ref (ad 31), .int wn])), (ad 29, .inl (kT 0, 200, .inl wf)), (ad 30, .inl (kT 0, 200, .inl wt)), (ad 31, .inl (kT 1, 200, .inr (.inl wv)))]) ⟨hx, hb, hml, hown, ht⟩ (c_Registers_valueOf l D kT ad rn rv y2 _ h) (cwV 1 ht (zq_gV zw_198 zw_149 zw_150 zw_128 zw_151) rfl rfl rfl zh_Registers_valueOf ⟨Nat.le_of_ble_eq_true rfl, Nat.le_of_ble_eq_true rfl⟩) hE hP hD hS hA [0, 1] [2, 3, 4, 5, 6, 7, 8] 9 rfl (by decide +kernel) rfl (by decide +kernel) rfl rfl 0 rfl rfl rfl rfl hl.1 (Nat.le_of_ble_eq_true rfl) rfl zd_Writes_noteReverse_69 ⟨Nat.zero_le _, Nat.zero_le _⟩ (fun r_17 w1 H locs hw hJ hS => ?_)
    obtain ⟨rfl, h⟩ := hw
    obtain ⟨hP, hD⟩ := hJ (W_Writes_noteReverse kT ad rn rv rm bc wn wf wt wv) rfl rfl rfl
    refine zq_c_Vv (rest := []) (adl := (A_Writes_noteReverse ad)) (wr := [(ad 1, .inr (0, [.ref (ad 2), .ref (ad 3), .ref (ad 4), .int rn])), (ad 3, .inl (kT 1, 24, .inr (.inl rv))), (ad 4, .inl (kT 2, 24, .inl rm)), (ad 5, .inr (1, [.ref (ad 6)])), (ad 6, .inl (kT 3, 4096, .inl bc))]) ⟨hx, hb, hml, hown, ht⟩ (c_Writes_note l D kT ad wn wf wt wv z0 y2 r_17 _ h) (cwV 3 ht (zq_gV zw_189 zw_190 zw_191 zw_192 zw_193) rfl rfl rfl zh_Writes_note ⟨Nat.le_of_ble_eq_true rfl, Nat.le_of_ble_eq_true rfl⟩) hE hP hD hS hA [5, 6, 7, 8] [0, 1, 2, 3, 4] 9 rfl (by decide +kernel) rfl (by decide +kernel) rfl rfl 0 rfl rfl rfl rfl hl.1 (Nat.le_of_ble_eq_true rfl) rfl zd_Writes_noteReverse_72 ⟨Nat.zero_le _, Nat.zero_le _⟩ (fun w1 H locs hw hJ hS => ?_)
    obtain ⟨wn_18, wf_19, wt_20, wv_21, rfl, h⟩ := hw
    obtain ⟨hP, hD⟩ := hJ (W_Writes_noteReverse kT ad rn rv rm bc wn_18 wf_19 wt_20 wv_21) rfl rfl rfl
    exact hret  _ H locs 75 ls ⟨wn_18, wf_19, wt_20, wv_21, rfl, h⟩ hP rfl hS zd_Writes_noteReverse_75
  refine lv_iload_n hx hb zd_Writes_noteReverse_0 rfl (lv_at hl 1 rfl) ?_
  refine lv_iconst (v := 3) hx hb zd_Writes_noteReverse_1 (by decide) ?_
  refine lv_icmp_ne (tgt := 23) hx hb zd_Writes_noteReverse_2 (by decide) (fun c_1 => ?_) (fun c_1 => ?_)
  · have h := zq_if c_1 h
    refine lv_iload_n hx hb zd_Writes_noteReverse_23 rfl (lv_at hl 1 rfl) ?_
    refine lv_iconst (v := 4) hx hb zd_Writes_noteReverse_24 (by decide) ?_
    refine lv_icmp_ne (tgt := 46) hx hb zd_Writes_noteReverse_25 (by decide) (fun c_2 => ?_) (fun c_2 => ?_)
    · have h := zq_if c_2 h
      refine lv_aload_n hx hb zd_Writes_noteReverse_46 rfl (lv_at hl 0 rfl) ?_
      refine lv_aload_n hx hb zd_Writes_noteReverse_47 rfl (lv_at hl 0 rfl) ?_
      refine va_get (D := D) (ci := 6) (v := .ref (ad 1)) (C := zR_Writes) (T := zF_Writes) (N := 6) hx hb ht zi_Writes hown hK hP 5 rfl rfl 0 (by decide) (ht _ zw_182) (fun _ h9 => h9) rfl zd_Writes_noteReverse_48 ?_
      refine lv_iload_n hx hb zd_Writes_noteReverse_51 rfl (lv_at hl 2 rfl) ?_
      refine zq_c_Vi (rest := [.ref (ad 28)]) (adl := (A_Writes_noteReverse ad)) (wr := [(ad 3, .inl (kT 1, 24, .inr (.inl rv))), (ad 5, .inr (1, [.ref (ad 6)])), (ad 6, .inl (kT 3, 4096, .inl bc)), (ad 28, .inr (6, [.ref (ad 1), .ref (ad 5), .ref (ad 29), .ref (ad 30), .ref (ad 31), .int wn])), (ad 29, .inl (kT 0, 200, .inl wf)), (ad 30, .inl (kT 0, 200, .inl wt)), (ad 31, .inl (kT 1, 200, .inr (.inl wv)))]) ⟨hx, hb, hml, hown, ht⟩ (c_Registers_isMarked l D kT ad rn rm p1 _ h) (cwV 1 ht (zq_gV zw_183 zw_158 zw_159 zw_128 zw_160) rfl rfl rfl zh_Registers_isMarked ⟨Nat.le_of_ble_eq_true rfl, Nat.le_of_ble_eq_true rfl⟩) hE hP hD hS hA [0, 2] [1, 3, 4, 5, 6, 7, 8] 9 rfl (by decide +kernel) rfl (by decide +kernel) rfl rfl 0 rfl rfl rfl rfl hl.1 (Nat.le_of_ble_eq_true rfl) rfl zd_Writes_noteReverse_52 ⟨Nat.zero_le _, Nat.zero_le _⟩ (fun r_3 w1 H locs hw hJ hS => ?_)
      obtain ⟨rfl, h⟩ := hw
      obtain ⟨hP, hD⟩ := hJ (W_Writes_noteReverse kT ad rn rv rm bc wn wf wt wv) rfl rfl rfl
      refine lv_if_eq (tgt := 62) hx hb zd_Writes_noteReverse_55 (by decide) (fun c_4 => ?_) (fun c_4 => ?_)
      · have h := zq_it c_4 h
        refine lv_iconst (v := 0) hx hb zd_Writes_noteReverse_62 (by decide) ?_
        exact B63 wn wf wt wv p1 0 H locs ls h hP hD hS (lv_sub hl [0, 2] rfl)
      · have h := zq_if c_4 h
        refine lv_iconst (v := 1) hx hb zd_Writes_noteReverse_58 (by decide) ?_
        refine lv_goto (tgt := 63) hx hb zd_Writes_noteReverse_59 (by decide) ?_
        exact B63 wn wf wt wv p1 1 H locs ls h hP hD hS (lv_sub hl [0, 2] rfl)
    · have h := zq_it c_2 h
      refine lv_aload_n hx hb zd_Writes_noteReverse_28 rfl (lv_at hl 0 rfl) ?_
      refine lv_iconst (v := 4) hx hb zd_Writes_noteReverse_29 (by decide) ?_
      refine lv_iload_n hx hb zd_Writes_noteReverse_30 rfl (lv_at hl 2 rfl) ?_
      refine lv_aload_n hx hb zd_Writes_noteReverse_31 rfl (lv_at hl 0 rfl) ?_
      refine va_get (D := D) (ci := 6) (v := .ref (ad 5)) (C := zR_Writes) (T := zF_Writes) (N := 6) hx hb ht zi_Writes hown hK hP 5 rfl rfl 1 (by decide) (ht _ zw_184) (fun _ h9 => h9) rfl zd_Writes_noteReverse_32 ?_
      refine lv_iload_n hx hb zd_Writes_noteReverse_35 rfl (lv_at hl 2 rfl) ?_
      refine zq_c_Vi (rest := [.int p1, .int 4, .ref (ad 28)]) (adl := (A_Writes_noteReverse ad)) (wr := [(ad 1, .inr (0, [.ref (ad 2), .ref (ad 3), .ref (ad 4), .int rn])), (ad 3, .inl (kT 1, 24, .inr (.inl rv))), (ad 4, .inl (kT 2, 24, .inl rm)), (ad 28, .inr (6, [.ref (ad 1), .ref (ad 5), .ref (ad 29), .ref (ad 30), .ref (ad 31), .int wn])), (ad 29, .inl (kT 0, 200, .inl wf)), (ad 30, .inl (kT 0, 200, .inl wt)), (ad 31, .inl (kT 1, 200, .inr (.inl wv)))]) ⟨hx, hb, hml, hown, ht⟩ (c_Bytes_wordOf l D kT ad bc p1 _ h) (cwV 1 ht (zq_gV zw_185 zw_186 zw_187 zw_134 zw_188) rfl rfl rfl zh_Bytes_wordOf ⟨Nat.le_of_ble_eq_true rfl, Nat.le_of_ble_eq_true rfl⟩) hE hP hD hS hA [3, 4] [0, 1, 2, 5, 6, 7, 8] 9 rfl (by decide +kernel) rfl (by decide +kernel) rfl rfl 0 rfl rfl rfl rfl hl.1 (Nat.le_of_ble_eq_true rfl) rfl zd_Writes_noteReverse_36 ⟨Nat.zero_le _, Nat.zero_le _⟩ (fun r_5 w1 H locs hw hJ hS => ?_)
      obtain ⟨rfl, h⟩ := hw
      obtain ⟨hP, hD⟩ := hJ (W_Writes_noteReverse kT ad rn rv rm bc wn wf wt wv) rfl rfl rfl
      refine lv_i2l (v := (zq_j_i2l r_5)) hx hb zd_Writes_noteReverse_39 rfl ?_
      refine zq_c_Vv (rest := []) (adl := (A_Writes_noteReverse ad)) (wr := [(ad 1, .inr (0, [.ref (ad 2), .ref (ad 3), .ref (ad 4), .int rn])), (ad 3, .inl (kT 1, 24, .inr (.inl rv))), (ad 4, .inl (kT 2, 24, .inl rm)), (ad 5, .inr (1, [.ref (ad 6)])), (ad 6, .inl (kT 3, 4096, .inl bc))]) ⟨hx, hb, hml, hown, ht⟩ (c_Writes_note l D kT ad wn wf wt wv 4 p1 (zq_j_i2l r_5) _ h) (cwV 3 ht (zq_gV zw_189 zw_190 zw_191 zw_192 zw_193) rfl rfl rfl zh_Writes_note ⟨Nat.le_of_ble_eq_true rfl, Nat.le_of_ble_eq_true rfl⟩) hE hP hD hS hA [5, 6, 7, 8] [0, 1, 2, 3, 4] 9 rfl (by decide +kernel) rfl (by decide +kernel) rfl rfl 0 rfl rfl rfl rfl hl.1 (Nat.le_of_ble_eq_true rfl) rfl zd_Writes_noteReverse_40 ⟨Nat.zero_le _, Nat.zero_le _⟩ (fun w1 H locs hw hJ hS => ?_)
      obtain ⟨wn_6, wf_7, wt_8, wv_9, rfl, h⟩ := hw
      obtain ⟨hP, hD⟩ := hJ (W_Writes_noteReverse kT ad rn rv rm bc wn_6 wf_7 wt_8 wv_9) rfl rfl rfl
      refine lv_goto (tgt := 75) hx hb zd_Writes_noteReverse_43 (by decide) ?_
      exact hret  _ H locs 75 ls ⟨wn_6, wf_7, wt_8, wv_9, rfl, h⟩ hP rfl hS zd_Writes_noteReverse_75
  · have h := zq_it c_1 h
    refine lv_aload_n hx hb zd_Writes_noteReverse_5 rfl (lv_at hl 0 rfl) ?_
    refine lv_iconst (v := 3) hx hb zd_Writes_noteReverse_6 (by decide) ?_
    refine lv_iload_n hx hb zd_Writes_noteReverse_7 rfl (lv_at hl 2 rfl) ?_
    refine lv_aload_n hx hb zd_Writes_noteReverse_8 rfl (lv_at hl 0 rfl) ?_
    refine va_get (D := D) (ci := 6) (v := .ref (ad 5)) (C := zR_Writes) (T := zF_Writes) (N := 6) hx hb ht zi_Writes hown hK hP 5 rfl rfl 1 (by decide) (ht _ zw_184) (fun _ h9 => h9) rfl zd_Writes_noteReverse_9 ?_
    refine lv_iload_n hx hb zd_Writes_noteReverse_12 rfl (lv_at hl 2 rfl) ?_
    refine zq_c_Vi (rest := [.int p1, .int 3, .ref (ad 28)]) (adl := (A_Writes_noteReverse ad)) (wr := [(ad 1, .inr (0, [.ref (ad 2), .ref (ad 3), .ref (ad 4), .int rn])), (ad 3, .inl (kT 1, 24, .inr (.inl rv))), (ad 4, .inl (kT 2, 24, .inl rm)), (ad 28, .inr (6, [.ref (ad 1), .ref (ad 5), .ref (ad 29), .ref (ad 30), .ref (ad 31), .int wn])), (ad 29, .inl (kT 0, 200, .inl wf)), (ad 30, .inl (kT 0, 200, .inl wt)), (ad 31, .inl (kT 1, 200, .inr (.inl wv)))]) ⟨hx, hb, hml, hown, ht⟩ (c_Bytes_byteOf l D kT ad bc p1 _ h) (cwV 1 ht (zq_gV zw_194 zw_195 zw_196 zw_134 zw_197) rfl rfl rfl zh_Bytes_byteOf ⟨Nat.le_of_ble_eq_true rfl, Nat.le_of_ble_eq_true rfl⟩) hE hP hD hS hA [3, 4] [0, 1, 2, 5, 6, 7, 8] 9 rfl (by decide +kernel) rfl (by decide +kernel) rfl rfl 0 rfl rfl rfl rfl hl.1 (Nat.le_of_ble_eq_true rfl) rfl zd_Writes_noteReverse_13 ⟨Nat.zero_le _, Nat.zero_le _⟩ (fun r_11 w1 H locs hw hJ hS => ?_)
    obtain ⟨rfl, h⟩ := hw
    obtain ⟨hP, hD⟩ := hJ (W_Writes_noteReverse kT ad rn rv rm bc wn wf wt wv) rfl rfl rfl
    refine lv_i2l (v := (zq_j_i2l r_11)) hx hb zd_Writes_noteReverse_16 rfl ?_
    refine zq_c_Vv (rest := []) (adl := (A_Writes_noteReverse ad)) (wr := [(ad 1, .inr (0, [.ref (ad 2), .ref (ad 3), .ref (ad 4), .int rn])), (ad 3, .inl (kT 1, 24, .inr (.inl rv))), (ad 4, .inl (kT 2, 24, .inl rm)), (ad 5, .inr (1, [.ref (ad 6)])), (ad 6, .inl (kT 3, 4096, .inl bc))]) ⟨hx, hb, hml, hown, ht⟩ (c_Writes_note l D kT ad wn wf wt wv 3 p1 (zq_j_i2l r_11) _ h) (cwV 3 ht (zq_gV zw_189 zw_190 zw_191 zw_192 zw_193) rfl rfl rfl zh_Writes_note ⟨Nat.le_of_ble_eq_true rfl, Nat.le_of_ble_eq_true rfl⟩) hE hP hD hS hA [5, 6, 7, 8] [0, 1, 2, 3, 4] 9 rfl (by decide +kernel) rfl (by decide +kernel) rfl rfl 0 rfl rfl rfl rfl hl.1 (Nat.le_of_ble_eq_true rfl) rfl zd_Writes_noteReverse_17 ⟨Nat.zero_le _, Nat.zero_le _⟩ (fun w1 H locs hw hJ hS => ?_)
    obtain ⟨wn_12, wf_13, wt_14, wv_15, rfl, h⟩ := hw
    obtain ⟨hP, hD⟩ := hJ (W_Writes_noteReverse kT ad rn rv rm bc wn_12 wf_13 wt_14 wv_15) rfl rfl rfl
    refine lv_goto (tgt := 75) hx hb zd_Writes_noteReverse_20 (by decide) ?_
    exact hret  _ H locs 75 ls ⟨wn_12, wf_13, wt_14, wv_15, rfl, h⟩ hP rfl hS zd_Writes_noteReverse_75
abbrev W_Writes_perform (kT : Nat → ClassId) (ad : Nat → Nat) (rn : Int32) (rc : Nat → Int64) (rv : Nat → Int64) (rm : Nat → Int32) (bc : Nat → Int32) (wn : Int32) : va_W := [(ad 1, .inr (0, [.ref (ad 2), .ref (ad 3), .ref (ad 4), .int rn])), (ad 2, .inl (kT 1, 24, .inr (.inl rc))), (ad 3, .inl (kT 1, 24, .inr (.inl rv))), (ad 4, .inl (kT 2, 24, .inl rm)), (ad 5, .inr (1, [.ref (ad 6)])), (ad 6, .inl (kT 3, 4096, .inl bc)), (ad 28, .inr (6, [.ref (ad 1), .ref (ad 5), .ref (ad 29), .ref (ad 30), .ref (ad 31), .int wn]))]
abbrev A_Writes_perform (ad : Nat → Nat) : List Nat := [ad 1, ad 2, ad 3, ad 4, ad 5, ad 6, ad 28]
def wp_Writes_perform (rn : Int32) (rc : Nat → Int64) (rv : Nat → Int64) (rm : Nat → Int32) (bc : Nat → Int32) (wn : Int32) (p0 : Int32) (p1 : Int32) (p2 : Int64) (post : (Nat → Int64) → (Nat → Int32) → (Nat → Int32) → Prop) : Prop := (if p0 = 2 then wp_Registers_valueOf rn rv p1 (fun r_1 => wp_Registers_put rn rc rv rm p1 r_1 1 (fun rv_2 rm_3 => post  rv_2 rm_3 bc)) else (if p0 = 3 then wp_Bytes_putByte bc p1 p2 (fun bc_5 => post  rv rm bc_5) else (if p0 = 4 then wp_Bytes_putWord bc p1 p2 (fun bc_7 => post  rv rm bc_7) else (if p0 = 1 then wp_Registers_put rn rc rv rm p1 p2 1 (fun rv_13 rm_14 => post  rv_13 rm_14 bc) else wp_Registers_put rn rc rv rm p1 p2 0 (fun rv_10 rm_11 => post  rv_10 rm_11 bc)))))
set_option maxHeartbeats 4000000 in
set_option maxRecDepth 100000 in
theorem c_Writes_perform (l : Launch) (D : va_G) (kT : Nat → ClassId) (ad : Nat → Nat) (rn : Int32) (rc : Nat → Int64) (rv : Nat → Int64) (rm : Nat → Int32) (bc : Nat → Int32) (wn : Int32) (p0 : Int32) (p1 : Int32) (p2 : Int64) (post : (Nat → Int64) → (Nat → Int32) → (Nat → Int32) → Prop) (h : wp_Writes_perform rn rc rv rm bc wn p0 p1 p2 post) : zq_Mv l zy_Writes_perform zs_Writes_perform ({ frames := 1, cells := 0, slots := 0, locals := 24 }) D kT [.ref (ad 28), .int p0, .int p1, .long p2] (W_Writes_perform kT ad rn rc rv rm bc wn) (fun w' => ∃ (rv' : Nat → Int64) (rm' : Nat → Int32) (bc' : Nat → Int32), w' = (W_Writes_perform kT ad rn rc rv' rm' bc' wn) ∧ post  rv' rm' bc') := by
  refine zq_Mv_of (adl := (A_Writes_perform ad)) (cc := zb_Writes_perform) (maxL := 5) (own := zR_Writes) rfl (by decide) rfl rfl (Nat.le_of_ble_eq_true rfl) ?_
  intro p e s m AV below meth c A QQ H locs ls hx hb hml hown ht hE hA hret hP hD hS hl
  have hK := hE.1
  have hl : lv_has ls 5 [(0, .ref (ad 28)), (1, .int p0), (2, .int p1), (3, .long p2)] := hl
  refine lv_iload_n hx hb zd_Writes_perform_0 rfl (lv_at hl 1 rfl) ?_
  by_cases k0 : p0 = 2
  · have h := zq_it k0 h
    refine lv_tableIn (off := 51) (tgt := 52) hx hb zd_Writes_perform_1 (by rw [k0]; decide) (by rw [k0]; decide) (by rw [k0]; rfl) (by decide) ?_
    refine lv_aload_n hx hb zd_Writes_perform_52 rfl (lv_at hl 0 rfl) ?_
    refine va_get (D := D) (ci := 6) (v := .ref (ad 1)) (C := zR_Writes) (T := zF_Writes) (N := 6) hx hb ht zi_Writes hown hK hP 6 rfl rfl 0 (by decide) (ht _ zw_182) (fun _ h9 => h9) rfl zd_Writes_perform_53 ?_
    refine lv_iload_n hx hb zd_Writes_perform_56 rfl (lv_at hl 2 rfl) ?_
    refine lv_aload_n hx hb zd_Writes_perform_57 rfl (lv_at hl 0 rfl) ?_
    refine va_get (D := D) (ci := 6) (v := .ref (ad 1)) (C := zR_Writes) (T := zF_Writes) (N := 6) hx hb ht zi_Writes hown hK hP 6 rfl rfl 0 (by decide) (ht _ zw_182) (fun _ h9 => h9) rfl zd_Writes_perform_58 ?_
    refine lv_iload_n hx hb zd_Writes_perform_61 rfl (lv_at hl 2 rfl) ?_
    refine zq_c_Vl (rest := [.int p1, .ref (ad 1)]) (adl := (A_Writes_perform ad)) (wr := [(ad 2, .inl (kT 1, 24, .inr (.inl rc))), (ad 4, .inl (kT 2, 24, .inl rm)), (ad 5, .inr (1, [.ref (ad 6)])), (ad 6, .inl (kT 3, 4096, .inl bc)), (ad 28, .inr (6, [.ref (ad 1), .ref (ad 5), .ref (ad 29), .ref (ad 30), .ref (ad 31), .int wn]))]) ⟨hx, hb, hml, hown, ht⟩ (c_Registers_valueOf l D kT ad rn rv p1 _ h) (cwV 1 ht (zq_gV zw_198 zw_149 zw_150 zw_128 zw_151) rfl rfl rfl zh_Registers_valueOf ⟨Nat.le_of_ble_eq_true rfl, Nat.le_of_ble_eq_true rfl⟩) hE hP hD hS hA [0, 2] [1, 3, 4, 5, 6] 7 rfl (by decide +kernel) rfl (by decide +kernel) rfl rfl 0 rfl rfl rfl rfl hl.1 (Nat.le_of_ble_eq_true rfl) rfl zd_Writes_perform_62 ⟨Nat.zero_le _, Nat.zero_le _⟩ (fun r_1 w1 H locs hw hJ hS => ?_)
    obtain ⟨rfl, h⟩ := hw
    obtain ⟨hP, hD⟩ := hJ (W_Writes_perform kT ad rn rc rv rm bc wn) rfl rfl rfl
    refine lv_iconst (v := 1) hx hb zd_Writes_perform_65 (by decide) ?_
    refine zq_c_Vv (rest := []) (adl := (A_Writes_perform ad)) (wr := [(ad 5, .inr (1, [.ref (ad 6)])), (ad 6, .inl (kT 3, 4096, .inl bc)), (ad 28, .inr (6, [.ref (ad 1), .ref (ad 5), .ref (ad 29), .ref (ad 30), .ref (ad 31), .int wn]))]) ⟨hx, hb, hml, hown, ht⟩ (c_Registers_put l D kT ad rn rc rv rm p1 r_1 1 _ h) (cwV 3 ht (zq_gV zw_199 zw_126 zw_127 zw_128 zw_129) rfl rfl rfl zh_Registers_put ⟨Nat.le_of_ble_eq_true rfl, Nat.le_of_ble_eq_true rfl⟩) hE hP hD hS hA [0, 1, 2, 3] [4, 5, 6] 7 rfl (by decide +kernel) rfl (by decide +kernel) rfl rfl 0 rfl rfl rfl rfl hl.1 (Nat.le_of_ble_eq_true rfl) rfl zd_Writes_perform_66 ⟨Nat.zero_le _, Nat.zero_le _⟩ (fun w1 H locs hw hJ hS => ?_)
    obtain ⟨rv_2, rm_3, rfl, h⟩ := hw
    obtain ⟨hP, hD⟩ := hJ (W_Writes_perform kT ad rn rc rv_2 rm_3 bc wn) rfl rfl rfl
    refine lv_goto (tgt := 91) hx hb zd_Writes_perform_69 (by decide) ?_
    exact hret  _ H locs 91 ls ⟨rv_2, rm_3, bc, rfl, h⟩ hP rfl hS zd_Writes_perform_91
  · have h := zq_if k0 h
    by_cases k1 : p0 = 3
    · have h := zq_it k1 h
      refine lv_tableIn (off := 27) (tgt := 28) hx hb zd_Writes_perform_1 (by rw [k1]; decide) (by rw [k1]; decide) (by rw [k1]; rfl) (by decide) ?_
      refine lv_aload_n hx hb zd_Writes_perform_28 rfl (lv_at hl 0 rfl) ?_
      refine va_get (D := D) (ci := 6) (v := .ref (ad 5)) (C := zR_Writes) (T := zF_Writes) (N := 6) hx hb ht zi_Writes hown hK hP 6 rfl rfl 1 (by decide) (ht _ zw_184) (fun _ h9 => h9) rfl zd_Writes_perform_29 ?_
      refine lv_iload_n hx hb zd_Writes_perform_32 rfl (lv_at hl 2 rfl) ?_
      refine lv_lload_n hx hb zd_Writes_perform_33 rfl (lv_at hl 3 rfl) ?_
      refine zq_c_Vv (rest := []) (adl := (A_Writes_perform ad)) (wr := [(ad 1, .inr (0, [.ref (ad 2), .ref (ad 3), .ref (ad 4), .int rn])), (ad 2, .inl (kT 1, 24, .inr (.inl rc))), (ad 3, .inl (kT 1, 24, .inr (.inl rv))), (ad 4, .inl (kT 2, 24, .inl rm)), (ad 28, .inr (6, [.ref (ad 1), .ref (ad 5), .ref (ad 29), .ref (ad 30), .ref (ad 31), .int wn]))]) ⟨hx, hb, hml, hown, ht⟩ (c_Bytes_putByte l D kT ad bc p1 p2 _ h) (cwV 2 ht (zq_gV zw_200 zw_201 zw_202 zw_134 zw_203) rfl rfl rfl zh_Bytes_putByte ⟨Nat.le_of_ble_eq_true rfl, Nat.le_of_ble_eq_true rfl⟩) hE hP hD hS hA [4, 5] [0, 1, 2, 3, 6] 7 rfl (by decide +kernel) rfl (by decide +kernel) rfl rfl 0 rfl rfl rfl rfl hl.1 (Nat.le_of_ble_eq_true rfl) rfl zd_Writes_perform_34 ⟨Nat.zero_le _, Nat.zero_le _⟩ (fun w1 H locs hw hJ hS => ?_)
      obtain ⟨bc_5, rfl, h⟩ := hw
      obtain ⟨hP, hD⟩ := hJ (W_Writes_perform kT ad rn rc rv rm bc_5 wn) rfl rfl rfl
      refine lv_goto (tgt := 91) hx hb zd_Writes_perform_37 (by decide) ?_
      exact hret  _ H locs 91 ls ⟨rv, rm, bc_5, rfl, h⟩ hP rfl hS zd_Writes_perform_91
    · have h := zq_if k1 h
      by_cases k2 : p0 = 4
      · have h := zq_it k2 h
        refine lv_tableIn (off := 39) (tgt := 40) hx hb zd_Writes_perform_1 (by rw [k2]; decide) (by rw [k2]; decide) (by rw [k2]; rfl) (by decide) ?_
        refine lv_aload_n hx hb zd_Writes_perform_40 rfl (lv_at hl 0 rfl) ?_
        refine va_get (D := D) (ci := 6) (v := .ref (ad 5)) (C := zR_Writes) (T := zF_Writes) (N := 6) hx hb ht zi_Writes hown hK hP 6 rfl rfl 1 (by decide) (ht _ zw_184) (fun _ h9 => h9) rfl zd_Writes_perform_41 ?_
        refine lv_iload_n hx hb zd_Writes_perform_44 rfl (lv_at hl 2 rfl) ?_
        refine lv_lload_n hx hb zd_Writes_perform_45 rfl (lv_at hl 3 rfl) ?_
        refine zq_c_Vv (rest := []) (adl := (A_Writes_perform ad)) (wr := [(ad 1, .inr (0, [.ref (ad 2), .ref (ad 3), .ref (ad 4), .int rn])), (ad 2, .inl (kT 1, 24, .inr (.inl rc))), (ad 3, .inl (kT 1, 24, .inr (.inl rv))), (ad 4, .inl (kT 2, 24, .inl rm)), (ad 28, .inr (6, [.ref (ad 1), .ref (ad 5), .ref (ad 29), .ref (ad 30), .ref (ad 31), .int wn]))]) ⟨hx, hb, hml, hown, ht⟩ (c_Bytes_putWord l D kT ad bc p1 p2 _ h) (cwV 2 ht (zq_gV zw_204 zw_205 zw_206 zw_134 zw_207) rfl rfl rfl zh_Bytes_putWord ⟨Nat.le_of_ble_eq_true rfl, Nat.le_of_ble_eq_true rfl⟩) hE hP hD hS hA [4, 5] [0, 1, 2, 3, 6] 7 rfl (by decide +kernel) rfl (by decide +kernel) rfl rfl 0 rfl rfl rfl rfl hl.1 (Nat.le_of_ble_eq_true rfl) rfl zd_Writes_perform_46 ⟨Nat.zero_le _, Nat.zero_le _⟩ (fun w1 H locs hw hJ hS => ?_)
        obtain ⟨bc_7, rfl, h⟩ := hw
        obtain ⟨hP, hD⟩ := hJ (W_Writes_perform kT ad rn rc rv rm bc_7 wn) rfl rfl rfl
        refine lv_goto (tgt := 91) hx hb zd_Writes_perform_49 (by decide) ?_
        exact hret  _ H locs 91 ls ⟨rv, rm, bc_7, rfl, h⟩ hP rfl hS zd_Writes_perform_91
      · have h := zq_if k2 h
        refine lv_tableOut (tgt := 72) hx hb zd_Writes_perform_1 (by have q0 := lv_neT k0 (a := 2) (by decide); have q1 := lv_neT k1 (a := 3) (by decide); have q2 := lv_neT k2 (a := 4) (by decide); omega) (by decide) ?_
        refine lv_aload_n hx hb zd_Writes_perform_72 rfl (lv_at hl 0 rfl) ?_
        refine va_get (D := D) (ci := 6) (v := .ref (ad 1)) (C := zR_Writes) (T := zF_Writes) (N := 6) hx hb ht zi_Writes hown hK hP 6 rfl rfl 0 (by decide) (ht _ zw_182) (fun _ h9 => h9) rfl zd_Writes_perform_73 ?_
        refine lv_iload_n hx hb zd_Writes_perform_76 rfl (lv_at hl 2 rfl) ?_
        refine lv_lload_n hx hb zd_Writes_perform_77 rfl (lv_at hl 3 rfl) ?_
        refine lv_iload_n hx hb zd_Writes_perform_78 rfl (lv_at hl 1 rfl) ?_
        refine lv_iconst (v := 1) hx hb zd_Writes_perform_79 (by decide) ?_
        refine lv_icmp_ne (tgt := 87) hx hb zd_Writes_perform_80 (by decide) (fun c_9 => ?_) (fun c_9 => ?_)
        · have h := zq_if c_9 h
          refine lv_iconst (v := 0) hx hb zd_Writes_perform_87 (by decide) ?_
          refine zq_c_Vv (rest := []) (adl := (A_Writes_perform ad)) (wr := [(ad 5, .inr (1, [.ref (ad 6)])), (ad 6, .inl (kT 3, 4096, .inl bc)), (ad 28, .inr (6, [.ref (ad 1), .ref (ad 5), .ref (ad 29), .ref (ad 30), .ref (ad 31), .int wn]))]) ⟨hx, hb, hml, hown, ht⟩ (c_Registers_put l D kT ad rn rc rv rm p1 p2 0 _ h) (cwV 3 ht (zq_gV zw_199 zw_126 zw_127 zw_128 zw_129) rfl rfl rfl zh_Registers_put ⟨Nat.le_of_ble_eq_true rfl, Nat.le_of_ble_eq_true rfl⟩) hE hP hD hS hA [0, 1, 2, 3] [4, 5, 6] 7 rfl (by decide +kernel) rfl (by decide +kernel) rfl rfl 0 rfl rfl rfl rfl hl.1 (Nat.le_of_ble_eq_true rfl) rfl zd_Writes_perform_88 ⟨Nat.zero_le _, Nat.zero_le _⟩ (fun w1 H locs hw hJ hS => ?_)
          obtain ⟨rv_10, rm_11, rfl, h⟩ := hw
          obtain ⟨hP, hD⟩ := hJ (W_Writes_perform kT ad rn rc rv_10 rm_11 bc wn) rfl rfl rfl
          exact hret  _ H locs 91 ls ⟨rv_10, rm_11, bc, rfl, h⟩ hP rfl hS zd_Writes_perform_91
        · have h := zq_it c_9 h
          refine lv_iconst (v := 1) hx hb zd_Writes_perform_83 (by decide) ?_
          refine lv_goto (tgt := 88) hx hb zd_Writes_perform_84 (by decide) ?_
          refine zq_c_Vv (rest := []) (adl := (A_Writes_perform ad)) (wr := [(ad 5, .inr (1, [.ref (ad 6)])), (ad 6, .inl (kT 3, 4096, .inl bc)), (ad 28, .inr (6, [.ref (ad 1), .ref (ad 5), .ref (ad 29), .ref (ad 30), .ref (ad 31), .int wn]))]) ⟨hx, hb, hml, hown, ht⟩ (c_Registers_put l D kT ad rn rc rv rm p1 p2 1 _ h) (cwV 3 ht (zq_gV zw_199 zw_126 zw_127 zw_128 zw_129) rfl rfl rfl zh_Registers_put ⟨Nat.le_of_ble_eq_true rfl, Nat.le_of_ble_eq_true rfl⟩) hE hP hD hS hA [0, 1, 2, 3] [4, 5, 6] 7 rfl (by decide +kernel) rfl (by decide +kernel) rfl rfl 0 rfl rfl rfl rfl hl.1 (Nat.le_of_ble_eq_true rfl) rfl zd_Writes_perform_88 ⟨Nat.zero_le _, Nat.zero_le _⟩ (fun w1 H locs hw hJ hS => ?_)
          obtain ⟨rv_13, rm_14, rfl, h⟩ := hw
          obtain ⟨hP, hD⟩ := hJ (W_Writes_perform kT ad rn rc rv_13 rm_14 bc wn) rfl rfl rfl
          exact hret  _ H locs 91 ls ⟨rv_13, rm_14, bc, rfl, h⟩ hP rfl hS zd_Writes_perform_91
abbrev W_Writes_performInOrder (kT : Nat → ClassId) (ad : Nat → Nat) (rn : Int32) (rc : Nat → Int64) (rv : Nat → Int64) (rm : Nat → Int32) (bc : Nat → Int32) (wn : Int32) (wf : Nat → Int32) (wt : Nat → Int32) (wv : Nat → Int64) : va_W := [(ad 1, .inr (0, [.ref (ad 2), .ref (ad 3), .ref (ad 4), .int rn])), (ad 2, .inl (kT 1, 24, .inr (.inl rc))), (ad 3, .inl (kT 1, 24, .inr (.inl rv))), (ad 4, .inl (kT 2, 24, .inl rm)), (ad 5, .inr (1, [.ref (ad 6)])), (ad 6, .inl (kT 3, 4096, .inl bc)), (ad 28, .inr (6, [.ref (ad 1), .ref (ad 5), .ref (ad 29), .ref (ad 30), .ref (ad 31), .int wn])), (ad 29, .inl (kT 0, 200, .inl wf)), (ad 30, .inl (kT 0, 200, .inl wt)), (ad 31, .inl (kT 1, 200, .inr (.inl wv)))]
abbrev A_Writes_performInOrder (ad : Nat → Nat) : List Nat := [ad 1, ad 2, ad 3, ad 4, ad 5, ad 6, ad 28, ad 29, ad 30, ad 31]
def wp_Writes_performInOrder_2 (rn : Int32) (rc : Nat → Int64) (wn : Int32) (wf : Nat → Int32) (wt : Nat → Int32) (wv : Nat → Int64) (post : (Nat → Int64) → (Nat → Int32) → (Nat → Int32) → Prop) : Nat → (Nat → Int64) → (Nat → Int32) → (Nat → Int32) → Int32 → Prop
  | 0 => fun _ _ _ _ => False
  | n + 1 => fun rv rm bc y1 => (if wn ≤ y1 then post  rv rm bc else vp_in y1 200 ∧ vp_in y1 200 ∧ vp_in y1 200 ∧ wp_Writes_perform rn rc rv rm bc wn (wf y1.toNatClampNeg) (wt y1.toNatClampNeg) (wv y1.toNatClampNeg) (fun rv_5 rm_6 bc_7 => wp_Writes_performInOrder_2 rn rc wn wf wt wv post n rv_5 rm_6 bc_7 (y1 + 1)))
def wp_Writes_performInOrder (rn : Int32) (rc : Nat → Int64) (rv : Nat → Int64) (rm : Nat → Int32) (bc : Nat → Int32) (wn : Int32) (wf : Nat → Int32) (wt : Nat → Int32) (wv : Nat → Int64)  (post : (Nat → Int64) → (Nat → Int32) → (Nat → Int32) → Prop) : Prop := ∃ n, wp_Writes_performInOrder_2 rn rc wn wf wt wv post n rv rm bc 0
set_option maxHeartbeats 4000000 in
set_option maxRecDepth 100000 in
theorem c_Writes_performInOrder (l : Launch) (D : va_G) (kT : Nat → ClassId) (ad : Nat → Nat) (rn : Int32) (rc : Nat → Int64) (rv : Nat → Int64) (rm : Nat → Int32) (bc : Nat → Int32) (wn : Int32) (wf : Nat → Int32) (wt : Nat → Int32) (wv : Nat → Int64)  (post : (Nat → Int64) → (Nat → Int32) → (Nat → Int32) → Prop) (h : wp_Writes_performInOrder rn rc rv rm bc wn wf wt wv  post) : zq_Mv l zy_Writes_performInOrder zs_Writes_performInOrder ({ frames := 2, cells := 0, slots := 0, locals := 48 }) D kT [.ref (ad 28)] (W_Writes_performInOrder kT ad rn rc rv rm bc wn wf wt wv) (fun w' => ∃ (rv' : Nat → Int64) (rm' : Nat → Int32) (bc' : Nat → Int32), w' = (W_Writes_performInOrder kT ad rn rc rv' rm' bc' wn wf wt wv) ∧ post  rv' rm' bc') := by
  refine zq_Mv_of (adl := (A_Writes_performInOrder ad)) (cc := zb_Writes_performInOrder) (maxL := 2) (own := zR_Writes) rfl (by decide) rfl rfl (Nat.le_of_ble_eq_true rfl) ?_
  intro p e s m AV below meth c A QQ H locs ls hx hb hml hown ht hE hA hret hP hD hS hl
  have hK := hE.1
  have hl : lv_has ls 2 [(0, .ref (ad 28))] := hl
  have B2 : ∀ (n : Nat) (rv : Nat → Int64) (rm : Nat → Int32) (bc : Nat → Int32) (y1 : Int32) (H : Heap) (locs : List Loc) (ls : Array Slot), wp_Writes_performInOrder_2 rn rc wn wf wt wv post n rv rm bc y1 → va_P D vwCl (W_Writes_performInOrder kT ad rn rc rv rm bc wn wf wt wv) H → va_D A (W_Writes_performInOrder kT ad rn rc rv rm bc wn wf wt wv) → va_S A s.heap H locs → lv_has ls 2 [(0, .ref (ad 28)), (1, .int y1)] → W p l e ({ frames := 2, cells := 0, slots := 0, locals := 48 }) s m AV below meth c H locs 0 0 QQ (F0 m 2 ls []) := by
    intro n
    induction n with
    | zero =>
      intro rv rm bc y1 H locs ls h
      exact h.elim
    | succ n ih =>
      intro rv rm bc y1 H locs ls h hP hD hS hl
      refine lv_iload_n hx hb zd_Writes_performInOrder_2 rfl (lv_at hl 1 rfl) ?_
      refine lv_aload_n hx hb zd_Writes_performInOrder_3 rfl (lv_at hl 0 rfl) ?_
      refine va_get (D := D) (ci := 6) (v := .int wn) (C := zR_Writes) (T := zF_Writes) (N := 6) hx hb ht zi_Writes hown hK hP 6 rfl rfl 5 (by decide) (ht _ zw_178) (fun _ h9 => h9) rfl zd_Writes_performInOrder_4 ?_
      refine lv_icmp_ge (tgt := 38) hx hb zd_Writes_performInOrder_7 (by decide) (fun c_1 => ?_) (fun c_1 => ?_)
      · have h := zq_it c_1 h
        exact hret  _ H locs 38 ls ⟨rv, rm, bc, rfl, h⟩ hP rfl hS zd_Writes_performInOrder_38
      · have h := zq_if c_1 h
        refine lv_aload_n hx hb zd_Writes_performInOrder_10 rfl (lv_at hl 0 rfl) ?_
        refine lv_aload_n hx hb zd_Writes_performInOrder_11 rfl (lv_at hl 0 rfl) ?_
        refine va_get (D := D) (ci := 6) (v := .ref (ad 29)) (C := zR_Writes) (T := zF_Writes) (N := 6) hx hb ht zi_Writes hown hK hP 6 rfl rfl 2 (by decide) (ht _ zw_179) (fun _ h9 => h9) rfl zd_Writes_performInOrder_12 ?_
        refine lv_iload_n hx hb zd_Writes_performInOrder_15 rfl (lv_at hl 1 rfl) ?_
        obtain ⟨hi_2, h⟩ := h
        refine zq_a_iald (D := D) hx hb hK hP 7 0 rfl rfl hi_2 rfl zd_Writes_performInOrder_16 ?_
        refine lv_aload_n hx hb zd_Writes_performInOrder_17 rfl (lv_at hl 0 rfl) ?_
        refine va_get (D := D) (ci := 6) (v := .ref (ad 30)) (C := zR_Writes) (T := zF_Writes) (N := 6) hx hb ht zi_Writes hown hK hP 6 rfl rfl 3 (by decide) (ht _ zw_180) (fun _ h9 => h9) rfl zd_Writes_performInOrder_18 ?_
        refine lv_iload_n hx hb zd_Writes_performInOrder_21 rfl (lv_at hl 1 rfl) ?_
        obtain ⟨hi_3, h⟩ := h
        refine zq_a_iald (D := D) hx hb hK hP 8 0 rfl rfl hi_3 rfl zd_Writes_performInOrder_22 ?_
        refine lv_aload_n hx hb zd_Writes_performInOrder_23 rfl (lv_at hl 0 rfl) ?_
        refine va_get (D := D) (ci := 6) (v := .ref (ad 31)) (C := zR_Writes) (T := zF_Writes) (N := 6) hx hb ht zi_Writes hown hK hP 6 rfl rfl 4 (by decide) (ht _ zw_181) (fun _ h9 => h9) rfl zd_Writes_performInOrder_24 ?_
        refine lv_iload_n hx hb zd_Writes_performInOrder_27 rfl (lv_at hl 1 rfl) ?_
        obtain ⟨hi_4, h⟩ := h
        refine zq_a_lald (D := D) hx hb hK hP 9 1 rfl rfl hi_4 rfl zd_Writes_performInOrder_28 ?_
        refine zq_c_Vv (rest := []) (adl := (A_Writes_performInOrder ad)) (wr := [(ad 29, .inl (kT 0, 200, .inl wf)), (ad 30, .inl (kT 0, 200, .inl wt)), (ad 31, .inl (kT 1, 200, .inr (.inl wv)))]) ⟨hx, hb, hml, hown, ht⟩ (c_Writes_perform l D kT ad rn rc rv rm bc wn (wf y1.toNatClampNeg) (wt y1.toNatClampNeg) (wv y1.toNatClampNeg) _ h) (cwV 3 ht (zq_gV zw_208 zw_209 zw_210 zw_192 zw_211) rfl rfl rfl zh_Writes_perform ⟨Nat.le_of_ble_eq_true rfl, Nat.le_of_ble_eq_true rfl⟩) hE hP hD hS hA [0, 1, 2, 3, 4, 5, 6] [7, 8, 9] 10 rfl (by decide +kernel) rfl (by decide +kernel) rfl rfl 6 rfl rfl rfl rfl hl.1 (Nat.le_of_ble_eq_true rfl) rfl zd_Writes_performInOrder_29 ⟨Nat.zero_le _, Nat.zero_le _⟩ (fun w1 H locs hw hJ hS => ?_)
        obtain ⟨rv_5, rm_6, bc_7, rfl, h⟩ := hw
        obtain ⟨hP, hD⟩ := hJ (W_Writes_performInOrder kT ad rn rc rv_5 rm_6 bc_7 wn wf wt wv) rfl rfl rfl
        refine lv_iinc (v := (y1 + 1)) (lv' := [(1, .int (y1 + 1)), (0, .ref (ad 28))]) hx hb zd_Writes_performInOrder_32 hl (k := 1) rfl rfl (by decide) rfl (fun ls hl => ?_)
        refine lv_goto (tgt := 2) hx hb zd_Writes_performInOrder_35 (by decide) ?_
        exact ih rv_5 rm_6 bc_7 (y1 + 1) H locs ls h hP hD hS (lv_sub hl [1, 0] rfl)
  refine lv_iconst (v := 0) hx hb zd_Writes_performInOrder_0 (by decide) ?_
  refine lv_istore_n (lv' := [(1, .int 0), (0, .ref (ad 28))]) hx hb zd_Writes_performInOrder_1 rfl hl (by decide) rfl (fun ls hl => ?_)
  obtain ⟨n, h⟩ := h
  exact B2 n rv rm bc 0 H locs ls h hP hD hS (lv_sub hl [1, 0] rfl)
abbrev W_Writes_performBackwards (kT : Nat → ClassId) (ad : Nat → Nat) (rn : Int32) (rc : Nat → Int64) (rv : Nat → Int64) (rm : Nat → Int32) (bc : Nat → Int32) (wn : Int32) (wf : Nat → Int32) (wt : Nat → Int32) (wv : Nat → Int64) : va_W := [(ad 1, .inr (0, [.ref (ad 2), .ref (ad 3), .ref (ad 4), .int rn])), (ad 2, .inl (kT 1, 24, .inr (.inl rc))), (ad 3, .inl (kT 1, 24, .inr (.inl rv))), (ad 4, .inl (kT 2, 24, .inl rm)), (ad 5, .inr (1, [.ref (ad 6)])), (ad 6, .inl (kT 3, 4096, .inl bc)), (ad 28, .inr (6, [.ref (ad 1), .ref (ad 5), .ref (ad 29), .ref (ad 30), .ref (ad 31), .int wn])), (ad 29, .inl (kT 0, 200, .inl wf)), (ad 30, .inl (kT 0, 200, .inl wt)), (ad 31, .inl (kT 1, 200, .inr (.inl wv)))]
abbrev A_Writes_performBackwards (ad : Nat → Nat) : List Nat := [ad 1, ad 2, ad 3, ad 4, ad 5, ad 6, ad 28, ad 29, ad 30, ad 31]
def wp_Writes_performBackwards_7 (rn : Int32) (rc : Nat → Int64) (wn : Int32) (wf : Nat → Int32) (wt : Nat → Int32) (wv : Nat → Int64) (post : (Nat → Int64) → (Nat → Int32) → (Nat → Int32) → Prop) : Nat → (Nat → Int64) → (Nat → Int32) → (Nat → Int32) → Int32 → Prop
  | 0 => fun _ _ _ _ => False
  | n + 1 => fun rv rm bc y1 => (if y1 < 0 then post  rv rm bc else vp_in y1 200 ∧ vp_in y1 200 ∧ vp_in y1 200 ∧ wp_Writes_perform rn rc rv rm bc wn (wf y1.toNatClampNeg) (wt y1.toNatClampNeg) (wv y1.toNatClampNeg) (fun rv_5 rm_6 bc_7 => wp_Writes_performBackwards_7 rn rc wn wf wt wv post n rv_5 rm_6 bc_7 (y1 + (-1))))
def wp_Writes_performBackwards (rn : Int32) (rc : Nat → Int64) (rv : Nat → Int64) (rm : Nat → Int32) (bc : Nat → Int32) (wn : Int32) (wf : Nat → Int32) (wt : Nat → Int32) (wv : Nat → Int64)  (post : (Nat → Int64) → (Nat → Int32) → (Nat → Int32) → Prop) : Prop := ∃ n, wp_Writes_performBackwards_7 rn rc wn wf wt wv post n rv rm bc (wn - 1)
set_option maxHeartbeats 4000000 in
set_option maxRecDepth 100000 in
theorem c_Writes_performBackwards (l : Launch) (D : va_G) (kT : Nat → ClassId) (ad : Nat → Nat) (rn : Int32) (rc : Nat → Int64) (rv : Nat → Int64) (rm : Nat → Int32) (bc : Nat → Int32) (wn : Int32) (wf : Nat → Int32) (wt : Nat → Int32) (wv : Nat → Int64)  (post : (Nat → Int64) → (Nat → Int32) → (Nat → Int32) → Prop) (h : wp_Writes_performBackwards rn rc rv rm bc wn wf wt wv  post) : zq_Mv l zy_Writes_performBackwards zs_Writes_performBackwards ({ frames := 2, cells := 0, slots := 0, locals := 48 }) D kT [.ref (ad 28)] (W_Writes_performBackwards kT ad rn rc rv rm bc wn wf wt wv) (fun w' => ∃ (rv' : Nat → Int64) (rm' : Nat → Int32) (bc' : Nat → Int32), w' = (W_Writes_performBackwards kT ad rn rc rv' rm' bc' wn wf wt wv) ∧ post  rv' rm' bc') := by
  refine zq_Mv_of (adl := (A_Writes_performBackwards ad)) (cc := zb_Writes_performBackwards) (maxL := 2) (own := zR_Writes) rfl (by decide) rfl rfl (Nat.le_of_ble_eq_true rfl) ?_
  intro p e s m AV below meth c A QQ H locs ls hx hb hml hown ht hE hA hret hP hD hS hl
  have hK := hE.1
  have hl : lv_has ls 2 [(0, .ref (ad 28))] := hl
  have B7 : ∀ (n : Nat) (rv : Nat → Int64) (rm : Nat → Int32) (bc : Nat → Int32) (y1 : Int32) (H : Heap) (locs : List Loc) (ls : Array Slot), wp_Writes_performBackwards_7 rn rc wn wf wt wv post n rv rm bc y1 → va_P D vwCl (W_Writes_performBackwards kT ad rn rc rv rm bc wn wf wt wv) H → va_D A (W_Writes_performBackwards kT ad rn rc rv rm bc wn wf wt wv) → va_S A s.heap H locs → lv_has ls 2 [(0, .ref (ad 28)), (1, .int y1)] → W p l e ({ frames := 2, cells := 0, slots := 0, locals := 48 }) s m AV below meth c H locs 0 0 QQ (F0 m 7 ls []) := by
    intro n
    induction n with
    | zero =>
      intro rv rm bc y1 H locs ls h
      exact h.elim
    | succ n ih =>
      intro rv rm bc y1 H locs ls h hP hD hS hl
      refine lv_iload_n hx hb zd_Writes_performBackwards_7 rfl (lv_at hl 1 rfl) ?_
      refine lv_if_lt (tgt := 39) hx hb zd_Writes_performBackwards_8 (by decide) (fun c_1 => ?_) (fun c_1 => ?_)
      · have h := zq_it c_1 h
        exact hret  _ H locs 39 ls ⟨rv, rm, bc, rfl, h⟩ hP rfl hS zd_Writes_performBackwards_39
      · have h := zq_if c_1 h
        refine lv_aload_n hx hb zd_Writes_performBackwards_11 rfl (lv_at hl 0 rfl) ?_
        refine lv_aload_n hx hb zd_Writes_performBackwards_12 rfl (lv_at hl 0 rfl) ?_
        refine va_get (D := D) (ci := 6) (v := .ref (ad 29)) (C := zR_Writes) (T := zF_Writes) (N := 6) hx hb ht zi_Writes hown hK hP 6 rfl rfl 2 (by decide) (ht _ zw_179) (fun _ h9 => h9) rfl zd_Writes_performBackwards_13 ?_
        refine lv_iload_n hx hb zd_Writes_performBackwards_16 rfl (lv_at hl 1 rfl) ?_
        obtain ⟨hi_2, h⟩ := h
        refine zq_a_iald (D := D) hx hb hK hP 7 0 rfl rfl hi_2 rfl zd_Writes_performBackwards_17 ?_
        refine lv_aload_n hx hb zd_Writes_performBackwards_18 rfl (lv_at hl 0 rfl) ?_
        refine va_get (D := D) (ci := 6) (v := .ref (ad 30)) (C := zR_Writes) (T := zF_Writes) (N := 6) hx hb ht zi_Writes hown hK hP 6 rfl rfl 3 (by decide) (ht _ zw_180) (fun _ h9 => h9) rfl zd_Writes_performBackwards_19 ?_
        refine lv_iload_n hx hb zd_Writes_performBackwards_22 rfl (lv_at hl 1 rfl) ?_
        obtain ⟨hi_3, h⟩ := h
        refine zq_a_iald (D := D) hx hb hK hP 8 0 rfl rfl hi_3 rfl zd_Writes_performBackwards_23 ?_
        refine lv_aload_n hx hb zd_Writes_performBackwards_24 rfl (lv_at hl 0 rfl) ?_
        refine va_get (D := D) (ci := 6) (v := .ref (ad 31)) (C := zR_Writes) (T := zF_Writes) (N := 6) hx hb ht zi_Writes hown hK hP 6 rfl rfl 4 (by decide) (ht _ zw_181) (fun _ h9 => h9) rfl zd_Writes_performBackwards_25 ?_
        refine lv_iload_n hx hb zd_Writes_performBackwards_28 rfl (lv_at hl 1 rfl) ?_
        obtain ⟨hi_4, h⟩ := h
        refine zq_a_lald (D := D) hx hb hK hP 9 1 rfl rfl hi_4 rfl zd_Writes_performBackwards_29 ?_
        refine zq_c_Vv (rest := []) (adl := (A_Writes_performBackwards ad)) (wr := [(ad 29, .inl (kT 0, 200, .inl wf)), (ad 30, .inl (kT 0, 200, .inl wt)), (ad 31, .inl (kT 1, 200, .inr (.inl wv)))]) ⟨hx, hb, hml, hown, ht⟩ (c_Writes_perform l D kT ad rn rc rv rm bc wn (wf y1.toNatClampNeg) (wt y1.toNatClampNeg) (wv y1.toNatClampNeg) _ h) (cwV 3 ht (zq_gV zw_208 zw_209 zw_210 zw_192 zw_211) rfl rfl rfl zh_Writes_perform ⟨Nat.le_of_ble_eq_true rfl, Nat.le_of_ble_eq_true rfl⟩) hE hP hD hS hA [0, 1, 2, 3, 4, 5, 6] [7, 8, 9] 10 rfl (by decide +kernel) rfl (by decide +kernel) rfl rfl 6 rfl rfl rfl rfl hl.1 (Nat.le_of_ble_eq_true rfl) rfl zd_Writes_performBackwards_30 ⟨Nat.zero_le _, Nat.zero_le _⟩ (fun w1 H locs hw hJ hS => ?_)
        obtain ⟨rv_5, rm_6, bc_7, rfl, h⟩ := hw
        obtain ⟨hP, hD⟩ := hJ (W_Writes_performBackwards kT ad rn rc rv_5 rm_6 bc_7 wn wf wt wv) rfl rfl rfl
        refine lv_iinc (v := (y1 + (-1))) (lv' := [(1, .int (y1 + (-1))), (0, .ref (ad 28))]) hx hb zd_Writes_performBackwards_33 hl (k := 1) rfl rfl (by decide) rfl (fun ls hl => ?_)
        refine lv_goto (tgt := 7) hx hb zd_Writes_performBackwards_36 (by decide) ?_
        exact ih rv_5 rm_6 bc_7 (y1 + (-1)) H locs ls h hP hD hS (lv_sub hl [1, 0] rfl)
  refine lv_aload_n hx hb zd_Writes_performBackwards_0 rfl (lv_at hl 0 rfl) ?_
  refine va_get (D := D) (ci := 6) (v := .int wn) (C := zR_Writes) (T := zF_Writes) (N := 6) hx hb ht zi_Writes hown hK hP 6 rfl rfl 5 (by decide) (ht _ zw_178) (fun _ h9 => h9) rfl zd_Writes_performBackwards_1 ?_
  refine lv_iconst (v := 1) hx hb zd_Writes_performBackwards_4 (by decide) ?_
  refine lv_isub hx hb zd_Writes_performBackwards_5 ?_
  refine lv_istore_n (lv' := [(1, .int (wn - 1)), (0, .ref (ad 28))]) hx hb zd_Writes_performBackwards_6 rfl hl (by decide) rfl (fun ls hl => ?_)
  obtain ⟨n, h⟩ := h
  exact B7 n rv rm bc (wn - 1) H locs ls h hP hD hS (lv_sub hl [1, 0] rfl)
end
section
abbrev W_Work_prepare (kT : Nat → ClassId) (ad : Nat → Nat) (ptn : Int32) (pin : Int32) (pw : Nat → Int32) (wn : Int32) (xw : Int32) (xp : Int32) (xr : Int32) (xq : Int32) (xe : Int32) (xh : Int32) (xb : Int32) : va_W := [(ad 12, .inr (3, [.ref (ad 13), .ref (ad 14), .ref (ad 15), .ref (ad 16), .int ptn, .ref (ad 17), .ref (ad 18), .ref (ad 19), .ref (ad 20), .ref (ad 21), .int pin])), (ad 19, .inl (kT 0, 40, .inl pw)), (ad 28, .inr (6, [.ref (ad 1), .ref (ad 5), .ref (ad 29), .ref (ad 30), .ref (ad 31), .int wn])), (ad 32, .inr (7, [.ref (ad 1), .ref (ad 5), .ref (ad 7), .ref (ad 12), .ref (ad 22), .ref (ad 28), .ref (ad 34), .int xw, .int xp, .int xr, .int xq, .int xe, .int xh, .int xb]))]
abbrev A_Work_prepare (ad : Nat → Nat) : List Nat := [ad 12, ad 19, ad 28, ad 32]
def wp_Work_prepare (ptn : Int32) (pin : Int32) (pw : Nat → Int32) (wn : Int32) (xw : Int32) (xp : Int32) (xr : Int32) (xq : Int32) (xe : Int32) (xh : Int32) (xb : Int32) (p0 : Int32) (p1 : Int32) (post : Int32 → Int32 → Int32 → Int32 → Int32 → Int32 → Int32 → Int32 → Prop) : Prop := wp_Program_is ptn pin pw p0 1 (fun r_1 => zq_bz r_1 ∧ wp_Program_is ptn pin pw p0 2 (fun r_3 => zq_bz r_3 ∧ wp_Writes_clear wn (fun wn_5 => post  wn_5 p1 r_1 r_3 0 0 0 (-1))))
set_option maxHeartbeats 4000000 in
set_option maxRecDepth 100000 in
theorem c_Work_prepare (l : Launch) (D : va_G) (kT : Nat → ClassId) (ad : Nat → Nat) (ptn : Int32) (pin : Int32) (pw : Nat → Int32) (wn : Int32) (xw : Int32) (xp : Int32) (xr : Int32) (xq : Int32) (xe : Int32) (xh : Int32) (xb : Int32) (p0 : Int32) (p1 : Int32) (post : Int32 → Int32 → Int32 → Int32 → Int32 → Int32 → Int32 → Int32 → Prop) (h : wp_Work_prepare ptn pin pw wn xw xp xr xq xe xh xb p0 p1 post) : zq_Mv l zy_Work_prepare zs_Work_prepare ({ frames := 1, cells := 0, slots := 0, locals := 22 }) D kT [.ref (ad 32), .int p0, .int p1] (W_Work_prepare kT ad ptn pin pw wn xw xp xr xq xe xh xb) (fun w' => ∃ (wn' : Int32) (xw' : Int32) (xp' : Int32) (xr' : Int32) (xq' : Int32) (xe' : Int32) (xh' : Int32) (xb' : Int32), w' = (W_Work_prepare kT ad ptn pin pw wn' xw' xp' xr' xq' xe' xh' xb') ∧ post  wn' xw' xp' xr' xq' xe' xh' xb') := by
  refine zq_Mv_of (adl := (A_Work_prepare ad)) (cc := zb_Work_prepare) (maxL := 3) (own := zR_Work) rfl (by decide) rfl rfl (Nat.le_of_ble_eq_true rfl) ?_
  intro p e s m AV below meth c A QQ H locs ls hx hb hml hown ht hE hA hret hP hD hS hl
  have hK := hE.1
  have hl : lv_has ls 3 [(0, .ref (ad 32)), (1, .int p0), (2, .int p1)] := hl
  refine lv_aload_n hx hb zd_Work_prepare_0 rfl (lv_at hl 0 rfl) ?_
  refine lv_iload_n hx hb zd_Work_prepare_1 rfl (lv_at hl 2 rfl) ?_
  refine va_put (D := D) (ci := 7) (v := .int p1) (ty := .int) (C := zR_Work) (T := zF_Work) (N := 14) hx hb ht zi_Work zt_Work zt_Work_ok zn_Work hown hK hP hD hS 3 rfl rfl 7 (by decide) (ht _ zw_212) (fun _ h9 => h9) rfl (by decide +kernel) rfl rfl (Nat.le_of_ble_eq_true rfl) zd_Work_prepare_2 (fun H locs hP hD hS => ?_)
  have hP : va_P D vwCl (W_Work_prepare kT ad ptn pin pw wn p1 xp xr xq xe xh xb) H := hP
  have hD : va_D A (W_Work_prepare kT ad ptn pin pw wn p1 xp xr xq xe xh xb) := hD
  refine lv_aload_n hx hb zd_Work_prepare_5 rfl (lv_at hl 0 rfl) ?_
  refine lv_aload_n hx hb zd_Work_prepare_6 rfl (lv_at hl 0 rfl) ?_
  refine va_get (D := D) (ci := 7) (v := .ref (ad 12)) (C := zR_Work) (T := zF_Work) (N := 14) hx hb ht zi_Work hown hK hP 3 rfl rfl 3 (by decide) (ht _ zw_213) (fun _ h9 => h9) rfl zd_Work_prepare_7 ?_
  refine lv_iload_n hx hb zd_Work_prepare_10 rfl (lv_at hl 1 rfl) ?_
  refine lv_iconst (v := 1) hx hb zd_Work_prepare_11 (by decide) ?_
  refine zq_c_Vi (rest := [.ref (ad 32)]) (adl := (A_Work_prepare ad)) (wr := [(ad 28, .inr (6, [.ref (ad 1), .ref (ad 5), .ref (ad 29), .ref (ad 30), .ref (ad 31), .int wn])), (ad 32, .inr (7, [.ref (ad 1), .ref (ad 5), .ref (ad 7), .ref (ad 12), .ref (ad 22), .ref (ad 28), .ref (ad 34), .int p1, .int xp, .int xr, .int xq, .int xe, .int xh, .int xb]))]) ⟨hx, hb, hml, hown, ht⟩ (c_Program_is l D kT ad ptn pin pw p0 1 _ h) (cwV 2 ht (zq_gV zw_214 zw_215 zw_216 zw_217 zw_218) rfl rfl rfl zh_Program_is ⟨Nat.le_of_ble_eq_true rfl, Nat.le_of_ble_eq_true rfl⟩) hE hP hD hS hA [0, 1] [2, 3] 4 rfl (by decide +kernel) rfl (by decide +kernel) rfl rfl 0 rfl rfl rfl rfl hl.1 (Nat.le_of_ble_eq_true rfl) rfl zd_Work_prepare_12 ⟨Nat.zero_le _, Nat.zero_le _⟩ (fun r_1 w1 H locs hw hJ hS => ?_)
  obtain ⟨rfl, h⟩ := hw
  obtain ⟨hP, hD⟩ := hJ (W_Work_prepare kT ad ptn pin pw wn p1 xp xr xq xe xh xb) rfl rfl rfl
  obtain ⟨hb_2, h⟩ := h
  refine va_put (D := D) (ci := 7) (v := .int r_1) (ty := .boolean) (C := zR_Work) (T := zF_Work) (N := 14) hx hb ht zi_Work zt_Work zt_Work_ok zn_Work hown hK hP hD hS 3 rfl rfl 8 (by decide) (ht _ zw_219) (fun _ h9 => h9) rfl (by decide +kernel) (zq_bzn hb_2) (zq_bzf hb_2) (Nat.le_of_ble_eq_true rfl) zd_Work_prepare_15 (fun H locs hP hD hS => ?_)
  have hP : va_P D vwCl (W_Work_prepare kT ad ptn pin pw wn p1 r_1 xr xq xe xh xb) H := hP
  have hD : va_D A (W_Work_prepare kT ad ptn pin pw wn p1 r_1 xr xq xe xh xb) := hD
  refine lv_aload_n hx hb zd_Work_prepare_18 rfl (lv_at hl 0 rfl) ?_
  refine lv_aload_n hx hb zd_Work_prepare_19 rfl (lv_at hl 0 rfl) ?_
  refine va_get (D := D) (ci := 7) (v := .ref (ad 12)) (C := zR_Work) (T := zF_Work) (N := 14) hx hb ht zi_Work hown hK hP 3 rfl rfl 3 (by decide) (ht _ zw_213) (fun _ h9 => h9) rfl zd_Work_prepare_20 ?_
  refine lv_iload_n hx hb zd_Work_prepare_23 rfl (lv_at hl 1 rfl) ?_
  refine lv_iconst (v := 2) hx hb zd_Work_prepare_24 (by decide) ?_
  refine zq_c_Vi (rest := [.ref (ad 32)]) (adl := (A_Work_prepare ad)) (wr := [(ad 28, .inr (6, [.ref (ad 1), .ref (ad 5), .ref (ad 29), .ref (ad 30), .ref (ad 31), .int wn])), (ad 32, .inr (7, [.ref (ad 1), .ref (ad 5), .ref (ad 7), .ref (ad 12), .ref (ad 22), .ref (ad 28), .ref (ad 34), .int p1, .int r_1, .int xr, .int xq, .int xe, .int xh, .int xb]))]) ⟨hx, hb, hml, hown, ht⟩ (c_Program_is l D kT ad ptn pin pw p0 2 _ h) (cwV 2 ht (zq_gV zw_214 zw_215 zw_216 zw_217 zw_218) rfl rfl rfl zh_Program_is ⟨Nat.le_of_ble_eq_true rfl, Nat.le_of_ble_eq_true rfl⟩) hE hP hD hS hA [0, 1] [2, 3] 4 rfl (by decide +kernel) rfl (by decide +kernel) rfl rfl 0 rfl rfl rfl rfl hl.1 (Nat.le_of_ble_eq_true rfl) rfl zd_Work_prepare_25 ⟨Nat.zero_le _, Nat.zero_le _⟩ (fun r_3 w1 H locs hw hJ hS => ?_)
  obtain ⟨rfl, h⟩ := hw
  obtain ⟨hP, hD⟩ := hJ (W_Work_prepare kT ad ptn pin pw wn p1 r_1 xr xq xe xh xb) rfl rfl rfl
  obtain ⟨hb_4, h⟩ := h
  refine va_put (D := D) (ci := 7) (v := .int r_3) (ty := .boolean) (C := zR_Work) (T := zF_Work) (N := 14) hx hb ht zi_Work zt_Work zt_Work_ok zn_Work hown hK hP hD hS 3 rfl rfl 9 (by decide) (ht _ zw_220) (fun _ h9 => h9) rfl (by decide +kernel) (zq_bzn hb_4) (zq_bzf hb_4) (Nat.le_of_ble_eq_true rfl) zd_Work_prepare_28 (fun H locs hP hD hS => ?_)
  have hP : va_P D vwCl (W_Work_prepare kT ad ptn pin pw wn p1 r_1 r_3 xq xe xh xb) H := hP
  have hD : va_D A (W_Work_prepare kT ad ptn pin pw wn p1 r_1 r_3 xq xe xh xb) := hD
  refine lv_aload_n hx hb zd_Work_prepare_31 rfl (lv_at hl 0 rfl) ?_
  refine lv_iconst (v := 0) hx hb zd_Work_prepare_32 (by decide) ?_
  refine va_put (D := D) (ci := 7) (v := .int 0) (ty := .boolean) (C := zR_Work) (T := zF_Work) (N := 14) hx hb ht zi_Work zt_Work zt_Work_ok zn_Work hown hK hP hD hS 3 rfl rfl 10 (by decide) (ht _ zw_221) (fun _ h9 => h9) rfl (by decide +kernel) rfl rfl (Nat.le_of_ble_eq_true rfl) zd_Work_prepare_33 (fun H locs hP hD hS => ?_)
  have hP : va_P D vwCl (W_Work_prepare kT ad ptn pin pw wn p1 r_1 r_3 0 xe xh xb) H := hP
  have hD : va_D A (W_Work_prepare kT ad ptn pin pw wn p1 r_1 r_3 0 xe xh xb) := hD
  refine lv_aload_n hx hb zd_Work_prepare_36 rfl (lv_at hl 0 rfl) ?_
  refine lv_iconst (v := 0) hx hb zd_Work_prepare_37 (by decide) ?_
  refine va_put (D := D) (ci := 7) (v := .int 0) (ty := .boolean) (C := zR_Work) (T := zF_Work) (N := 14) hx hb ht zi_Work zt_Work zt_Work_ok zn_Work hown hK hP hD hS 3 rfl rfl 11 (by decide) (ht _ zw_222) (fun _ h9 => h9) rfl (by decide +kernel) rfl rfl (Nat.le_of_ble_eq_true rfl) zd_Work_prepare_38 (fun H locs hP hD hS => ?_)
  have hP : va_P D vwCl (W_Work_prepare kT ad ptn pin pw wn p1 r_1 r_3 0 0 xh xb) H := hP
  have hD : va_D A (W_Work_prepare kT ad ptn pin pw wn p1 r_1 r_3 0 0 xh xb) := hD
  refine lv_aload_n hx hb zd_Work_prepare_41 rfl (lv_at hl 0 rfl) ?_
  refine lv_iconst (v := 0) hx hb zd_Work_prepare_42 (by decide) ?_
  refine va_put (D := D) (ci := 7) (v := .int 0) (ty := .boolean) (C := zR_Work) (T := zF_Work) (N := 14) hx hb ht zi_Work zt_Work zt_Work_ok zn_Work hown hK hP hD hS 3 rfl rfl 12 (by decide) (ht _ zw_223) (fun _ h9 => h9) rfl (by decide +kernel) rfl rfl (Nat.le_of_ble_eq_true rfl) zd_Work_prepare_43 (fun H locs hP hD hS => ?_)
  have hP : va_P D vwCl (W_Work_prepare kT ad ptn pin pw wn p1 r_1 r_3 0 0 0 xb) H := hP
  have hD : va_D A (W_Work_prepare kT ad ptn pin pw wn p1 r_1 r_3 0 0 0 xb) := hD
  refine lv_aload_n hx hb zd_Work_prepare_46 rfl (lv_at hl 0 rfl) ?_
  refine lv_iconst (v := (-1)) hx hb zd_Work_prepare_47 (by decide) ?_
  refine va_put (D := D) (ci := 7) (v := .int (-1)) (ty := .int) (C := zR_Work) (T := zF_Work) (N := 14) hx hb ht zi_Work zt_Work zt_Work_ok zn_Work hown hK hP hD hS 3 rfl rfl 13 (by decide) (ht _ zw_224) (fun _ h9 => h9) rfl (by decide +kernel) rfl rfl (Nat.le_of_ble_eq_true rfl) zd_Work_prepare_48 (fun H locs hP hD hS => ?_)
  have hP : va_P D vwCl (W_Work_prepare kT ad ptn pin pw wn p1 r_1 r_3 0 0 0 (-1)) H := hP
  have hD : va_D A (W_Work_prepare kT ad ptn pin pw wn p1 r_1 r_3 0 0 0 (-1)) := hD
  refine lv_aload_n hx hb zd_Work_prepare_51 rfl (lv_at hl 0 rfl) ?_
  refine va_get (D := D) (ci := 7) (v := .ref (ad 28)) (C := zR_Work) (T := zF_Work) (N := 14) hx hb ht zi_Work hown hK hP 3 rfl rfl 5 (by decide) (ht _ zw_225) (fun _ h9 => h9) rfl zd_Work_prepare_52 ?_
  refine zq_c_Vv (rest := []) (adl := (A_Work_prepare ad)) (wr := [(ad 12, .inr (3, [.ref (ad 13), .ref (ad 14), .ref (ad 15), .ref (ad 16), .int ptn, .ref (ad 17), .ref (ad 18), .ref (ad 19), .ref (ad 20), .ref (ad 21), .int pin])), (ad 19, .inl (kT 0, 40, .inl pw)), (ad 32, .inr (7, [.ref (ad 1), .ref (ad 5), .ref (ad 7), .ref (ad 12), .ref (ad 22), .ref (ad 28), .ref (ad 34), .int p1, .int r_1, .int r_3, .int 0, .int 0, .int 0, .int (-1)]))]) ⟨hx, hb, hml, hown, ht⟩ (c_Writes_clear l D kT ad wn _ h) (cwV 0 ht (zq_gV zw_226 zw_227 zw_228 zw_192 zw_229) rfl rfl rfl zh_Writes_clear ⟨Nat.le_of_ble_eq_true rfl, Nat.le_of_ble_eq_true rfl⟩) hE hP hD hS hA [2] [0, 1, 3] 4 rfl (by decide +kernel) rfl (by decide +kernel) rfl rfl 0 rfl rfl rfl rfl hl.1 (Nat.le_of_ble_eq_true rfl) rfl zd_Work_prepare_55 ⟨Nat.zero_le _, Nat.zero_le _⟩ (fun w1 H locs hw hJ hS => ?_)
  obtain ⟨wn_5, rfl, h⟩ := hw
  obtain ⟨hP, hD⟩ := hJ (W_Work_prepare kT ad ptn pin pw wn_5 p1 r_1 r_3 0 0 0 (-1)) rfl rfl rfl
  exact hret  _ H locs 58 ls ⟨wn_5, p1, r_1, r_3, 0, 0, 0, (-1), rfl, h⟩ hP rfl hS zd_Work_prepare_58
def wp_Work_isBelow  (p0 : Int64) (p1 : Int64) (post : Int32 → Prop) : Prop := (if (p1 ^^^ (-9223372036854775808)) ≤ (p0 ^^^ (-9223372036854775808)) then post 0  else post 1 )
set_option maxHeartbeats 4000000 in
set_option maxRecDepth 100000 in
theorem c_Work_isBelow (l : Launch) (D : va_G) (kT : Nat → ClassId) (ad : Nat → Nat)  (p0 : Int64) (p1 : Int64) (post : Int32 → Prop) (h : wp_Work_isBelow  p0 p1 post) : zq_Mi l zy_Work_isBelow zs_Work_isBelow ({ frames := 0, cells := 0, slots := 0, locals := 0 }) D kT [.long p0, .long p1] [] (fun r w' => w' = [] ∧ post r ) := by
  refine zq_Mz_of (adl := []) (cc := zb_Work_isBelow) (maxL := 4) (own := zR_Work) rfl (by decide) rfl rfl (Nat.le_of_ble_eq_true rfl) ?_
  intro p e s m AV below meth c A QQ H locs ls hx hb hml hown ht hE hA hret hP hD hS hl
  have hK := hE.1
  have hl : lv_has ls 4 [(0, .long p0), (2, .long p1)] := hl
  refine lv_lload_n hx hb zd_Work_isBelow_0 rfl (lv_at hl 0 rfl) ?_
  refine W.ldc2 (v := (-9223372036854775808)) hx hb hown (ht _ zw_230) rfl zd_Work_isBelow_1 ?_
  refine W.eq (g2 := F0 m 4 ls [.long (-9223372036854775808), .long p0]) rfl ?_
  refine lv_lxor hx hb zd_Work_isBelow_4 ?_
  refine lv_lload_n hx hb zd_Work_isBelow_5 rfl (lv_at hl 1 rfl) ?_
  refine W.ldc2 (v := (-9223372036854775808)) hx hb hown (ht _ zw_230) rfl zd_Work_isBelow_6 ?_
  refine W.eq (g2 := F0 m 9 ls [.long (-9223372036854775808), .long p1, .long (p0 ^^^ (-9223372036854775808))]) rfl ?_
  refine lv_lxor hx hb zd_Work_isBelow_9 ?_
  refine W.lcmp hx hb zd_Work_isBelow_10 ?_
  refine lv_if_ge (tgt := 18) hx hb zd_Work_isBelow_11 (by decide) (fun c_1 => ?_) (fun c_1 => ?_)
  · have h := zq_it (zq_lc_ge.mp c_1) h
    refine lv_iconst (v := 0) hx hb zd_Work_isBelow_18 (by decide) ?_
    exact hret 0 rfl _ H locs 19 ls ⟨rfl, h⟩ hP rfl hS zd_Work_isBelow_19
  · have h := zq_if (fun z => c_1 (zq_lc_ge.mpr z)) h
    refine lv_iconst (v := 1) hx hb zd_Work_isBelow_14 (by decide) ?_
    refine lv_goto (tgt := 19) hx hb zd_Work_isBelow_15 (by decide) ?_
    exact hret 1 rfl _ H locs 19 ls ⟨rfl, h⟩ hP rfl hS zd_Work_isBelow_19
def wp_Work_quotient  (p0 : Int64) (p1 : Int64) (post : Int64 → Prop) : Prop := (if 0 < p1 then (if p0 < 0 then ¬ p1 = 0 ∧ wp_Work_isBelow (p0 - ((zq_j_lshl ((zq_j_lushr p0 1) / p1) 1) * p1)) p1 (fun r_4 => (if r_4 = 0 then post ((zq_j_lshl ((zq_j_lushr p0 1) / p1) 1) + 1)  else post (zq_j_lshl ((zq_j_lushr p0 1) / p1) 1) )) else ¬ p1 = 0 ∧ post (p0 / p1) ) else (if p1 = 0 then post 0  else wp_Work_isBelow p0 p1 (fun r_8 => (if r_8 = 0 then post 1  else post 0 ))))
set_option maxHeartbeats 4000000 in
set_option maxRecDepth 100000 in
theorem c_Work_quotient (l : Launch) (D : va_G) (kT : Nat → ClassId) (ad : Nat → Nat)  (p0 : Int64) (p1 : Int64) (post : Int64 → Prop) (h : wp_Work_quotient  p0 p1 post) : zq_Ml l zy_Work_quotient zs_Work_quotient ({ frames := 1, cells := 0, slots := 0, locals := 23 }) D kT [.long p0, .long p1] [] (fun r w' => w' = [] ∧ post r ) := by
  refine zq_Ml_of (adl := []) (cc := zb_Work_quotient) (maxL := 6) (own := zR_Work) rfl (by decide) rfl rfl (Nat.le_of_ble_eq_true rfl) ?_
  intro p e s m AV below meth c A QQ H locs ls hx hb hml hown ht hE hA hret hP hD hS hl
  have hK := hE.1
  have hl : lv_has ls 6 [(0, .long p0), (2, .long p1)] := hl
  refine lv_lload_n hx hb zd_Work_quotient_0 rfl (lv_at hl 1 rfl) ?_
  refine lv_lconst (v := 0) hx hb zd_Work_quotient_1 (by decide) ?_
  refine W.lcmp hx hb zd_Work_quotient_2 ?_
  refine lv_if_gt (tgt := 26) hx hb zd_Work_quotient_3 (by decide) (fun c_1 => ?_) (fun c_1 => ?_)
  · have h := zq_it (zq_lc_gt.mp c_1) h
    refine lv_lload_n hx hb zd_Work_quotient_26 rfl (lv_at hl 0 rfl) ?_
    refine lv_lconst (v := 0) hx hb zd_Work_quotient_27 (by decide) ?_
    refine W.lcmp hx hb zd_Work_quotient_28 ?_
    refine lv_if_lt (tgt := 36) hx hb zd_Work_quotient_29 (by decide) (fun c_2 => ?_) (fun c_2 => ?_)
    · have h := zq_it (zq_lc_lt.mp c_2) h
      refine lv_lload_n hx hb zd_Work_quotient_36 rfl (lv_at hl 0 rfl) ?_
      refine lv_iconst (v := 1) hx hb zd_Work_quotient_37 (by decide) ?_
      refine lv_lushr (v := (zq_j_lushr p0 1)) hx hb zd_Work_quotient_38 rfl ?_
      refine lv_lload_n hx hb zd_Work_quotient_39 rfl (lv_at hl 1 rfl) ?_
      obtain ⟨hz_3, h⟩ := h
      refine lv_ldiv hx hb zd_Work_quotient_40 hz_3 ?_
      refine lv_iconst (v := 1) hx hb zd_Work_quotient_41 (by decide) ?_
      refine lv_lshl (v := (zq_j_lshl ((zq_j_lushr p0 1) / p1) 1)) hx hb zd_Work_quotient_42 rfl ?_
      refine lv_lstore (lv' := [(4, .long (zq_j_lshl ((zq_j_lushr p0 1) / p1) 1)), (0, .long p0), (2, .long p1)]) hx hb zd_Work_quotient_43 hl (by decide) rfl (fun ls hl => ?_)
      refine lv_lload_n hx hb zd_Work_quotient_45 rfl (lv_at hl 1 rfl) ?_
      refine lv_lload hx hb zd_Work_quotient_46 (lv_at hl 0 rfl) ?_
      refine lv_lload_n hx hb zd_Work_quotient_48 rfl (lv_at hl 2 rfl) ?_
      refine lv_lmul hx hb zd_Work_quotient_49 ?_
      refine lv_lsub hx hb zd_Work_quotient_50 ?_
      refine lv_lload_n hx hb zd_Work_quotient_51 rfl (lv_at hl 2 rfl) ?_
      refine zq_c_Si (rest := []) (adl := []) (wr := []) ⟨hx, hb, hml, hown, ht⟩ (c_Work_isBelow l D kT ad (p0 - ((zq_j_lshl ((zq_j_lushr p0 1) / p1) 1) * p1)) p1 _ h) (cwS 2 ht (zq_gS zw_231 zw_232 zw_233 zw_234) rfl rfl rfl zh_Work_isBelow ⟨Nat.le_of_ble_eq_true rfl, Nat.le_of_ble_eq_true rfl⟩) hE hP hD hS hA [] [] 0 rfl (by decide +kernel) rfl (by decide +kernel) rfl rfl  rfl hl.1 (Nat.le_of_ble_eq_true rfl) rfl zd_Work_quotient_52 ⟨Nat.zero_le _, Nat.zero_le _⟩ (fun r_4 w1 H locs hw hJ hS => ?_)
      obtain ⟨rfl, h⟩ := hw
      obtain ⟨hP, hD⟩ := hJ [] rfl rfl rfl
      refine lv_if_eq (tgt := 63) hx hb zd_Work_quotient_55 (by decide) (fun c_5 => ?_) (fun c_5 => ?_)
      · have h := zq_it c_5 h
        refine lv_lload hx hb zd_Work_quotient_63 (lv_at hl 0 rfl) ?_
        refine lv_lconst (v := 1) hx hb zd_Work_quotient_65 (by decide) ?_
        refine lv_ladd hx hb zd_Work_quotient_66 ?_
        exact hret ((zq_j_lshl ((zq_j_lushr p0 1) / p1) 1) + 1)  _ H locs 67 ls ⟨rfl, h⟩ hP rfl hS zd_Work_quotient_67
      · have h := zq_if c_5 h
        refine lv_lload hx hb zd_Work_quotient_58 (lv_at hl 0 rfl) ?_
        refine lv_goto (tgt := 67) hx hb zd_Work_quotient_60 (by decide) ?_
        exact hret (zq_j_lshl ((zq_j_lushr p0 1) / p1) 1)  _ H locs 67 ls ⟨rfl, h⟩ hP rfl hS zd_Work_quotient_67
    · have h := zq_if (fun z => c_2 (zq_lc_lt.mpr z)) h
      refine lv_lload_n hx hb zd_Work_quotient_32 rfl (lv_at hl 0 rfl) ?_
      refine lv_lload_n hx hb zd_Work_quotient_33 rfl (lv_at hl 1 rfl) ?_
      obtain ⟨hz_6, h⟩ := h
      refine lv_ldiv hx hb zd_Work_quotient_34 hz_6 ?_
      exact hret (p0 / p1)  _ H locs 35 ls ⟨rfl, h⟩ hP rfl hS zd_Work_quotient_35
  · have h := zq_if (fun z => c_1 (zq_lc_gt.mpr z)) h
    refine lv_lload_n hx hb zd_Work_quotient_6 rfl (lv_at hl 1 rfl) ?_
    refine lv_lconst (v := 0) hx hb zd_Work_quotient_7 (by decide) ?_
    refine W.lcmp hx hb zd_Work_quotient_8 ?_
    refine lv_if_eq (tgt := 20) hx hb zd_Work_quotient_9 (by decide) (fun c_7 => ?_) (fun c_7 => ?_)
    · have h := zq_it (zq_lc_eq.mp c_7) h
      refine lv_lconst (v := 0) hx hb zd_Work_quotient_20 (by decide) ?_
      refine lv_goto (tgt := 25) hx hb zd_Work_quotient_21 (by decide) ?_
      exact hret 0  _ H locs 25 ls ⟨rfl, h⟩ hP rfl hS zd_Work_quotient_25
    · have h := zq_if (fun z => c_7 (zq_lc_eq.mpr z)) h
      refine lv_lload_n hx hb zd_Work_quotient_12 rfl (lv_at hl 0 rfl) ?_
      refine lv_lload_n hx hb zd_Work_quotient_13 rfl (lv_at hl 1 rfl) ?_
      refine zq_c_Si (rest := []) (adl := []) (wr := []) ⟨hx, hb, hml, hown, ht⟩ (c_Work_isBelow l D kT ad p0 p1 _ h) (cwS 2 ht (zq_gS zw_231 zw_232 zw_233 zw_234) rfl rfl rfl zh_Work_isBelow ⟨Nat.le_of_ble_eq_true rfl, Nat.le_of_ble_eq_true rfl⟩) hE hP hD hS hA [] [] 0 rfl (by decide +kernel) rfl (by decide +kernel) rfl rfl  rfl hl.1 (Nat.le_of_ble_eq_true rfl) rfl zd_Work_quotient_14 ⟨Nat.zero_le _, Nat.zero_le _⟩ (fun r_8 w1 H locs hw hJ hS => ?_)
      obtain ⟨rfl, h⟩ := hw
      obtain ⟨hP, hD⟩ := hJ [] rfl rfl rfl
      refine lv_if_eq (tgt := 24) hx hb zd_Work_quotient_17 (by decide) (fun c_9 => ?_) (fun c_9 => ?_)
      · have h := zq_it c_9 h
        refine lv_lconst (v := 1) hx hb zd_Work_quotient_24 (by decide) ?_
        exact hret 1  _ H locs 25 ls ⟨rfl, h⟩ hP rfl hS zd_Work_quotient_25
      · have h := zq_if c_9 h
        refine lv_lconst (v := 0) hx hb zd_Work_quotient_20 (by decide) ?_
        refine lv_goto (tgt := 25) hx hb zd_Work_quotient_21 (by decide) ?_
        exact hret 0  _ H locs 25 ls ⟨rfl, h⟩ hP rfl hS zd_Work_quotient_25
abbrev W_Work_write (kT : Nat → ClassId) (ad : Nat → Nat) (rn : Int32) (rc : Nat → Int64) (rv : Nat → Int64) (rm : Nat → Int32) (bc : Nat → Int32) (wn : Int32) (wf : Nat → Int32) (wt : Nat → Int32) (wv : Nat → Int64) (xw : Int32) (xp : Int32) (xr : Int32) (xq : Int32) (xe : Int32) (xh : Int32) (xb : Int32) : va_W := [(ad 1, .inr (0, [.ref (ad 2), .ref (ad 3), .ref (ad 4), .int rn])), (ad 2, .inl (kT 1, 24, .inr (.inl rc))), (ad 3, .inl (kT 1, 24, .inr (.inl rv))), (ad 4, .inl (kT 2, 24, .inl rm)), (ad 5, .inr (1, [.ref (ad 6)])), (ad 6, .inl (kT 3, 4096, .inl bc)), (ad 28, .inr (6, [.ref (ad 1), .ref (ad 5), .ref (ad 29), .ref (ad 30), .ref (ad 31), .int wn])), (ad 29, .inl (kT 0, 200, .inl wf)), (ad 30, .inl (kT 0, 200, .inl wt)), (ad 31, .inl (kT 1, 200, .inr (.inl wv))), (ad 32, .inr (7, [.ref (ad 1), .ref (ad 5), .ref (ad 7), .ref (ad 12), .ref (ad 22), .ref (ad 28), .ref (ad 34), .int xw, .int xp, .int xr, .int xq, .int xe, .int xh, .int xb]))]
abbrev A_Work_write (ad : Nat → Nat) : List Nat := [ad 1, ad 2, ad 3, ad 4, ad 5, ad 6, ad 28, ad 29, ad 30, ad 31, ad 32]
def wp_Work_write_52 (rn : Int32) (rc : Nat → Int64) (xw : Int32) (xp : Int32) (xr : Int32) (xe : Int32) (xh : Int32) (xb : Int32) (rv : Nat → Int64) (rm : Nat → Int32) (bc : Nat → Int32) (wn : Int32) (wf : Nat → Int32) (wt : Nat → Int32) (wv : Nat → Int64) (xq : Int32) (y1 : Int32) (y2 : Int32) (y3 : Int64) (post : (Nat → Int64) → (Nat → Int32) → (Nat → Int32) → Int32 → (Nat → Int32) → (Nat → Int32) → (Nat → Int64) → Int32 → Prop) : Prop := wp_Writes_perform rn rc rv rm bc wn y1 y2 y3 (fun rv_16 rm_17 bc_18 => post  rv_16 rm_17 bc_18 wn wf wt wv xq)
def wp_Work_write_18 (rn : Int32) (rc : Nat → Int64) (xw : Int32) (xp : Int32) (xr : Int32) (xe : Int32) (xh : Int32) (xb : Int32) (rv : Nat → Int64) (rm : Nat → Int32) (bc : Nat → Int32) (wn : Int32) (wf : Nat → Int32) (wt : Nat → Int32) (wv : Nat → Int64) (xq : Int32) (y1 : Int32) (y2 : Int32) (y3 : Int64) (post : (Nat → Int64) → (Nat → Int32) → (Nat → Int32) → Int32 → (Nat → Int32) → (Nat → Int32) → (Nat → Int64) → Int32 → Prop) : Prop := (if xp = 0 then (if xr = 0 then wp_Work_write_52 rn rc xw xp xr xe xh xb rv rm bc wn wf wt wv xq y1 y2 y3 post else wp_Writes_noteReverse rn rv rm bc wn wf wt wv y1 y2 (fun wn_6 wf_7 wt_8 wv_9 => wp_Work_write_52 rn rc xw xp xr xe xh xb rv rm bc wn_6 wf_7 wt_8 wv_9 xq y1 y2 y3 post)) else wp_Writes_note wn wf wt wv y1 y2 y3 (fun wn_11 wf_12 wt_13 wv_14 => post  rv rm bc wn_11 wf_12 wt_13 wv_14 xq))
def wp_Work_write_13 (rn : Int32) (rc : Nat → Int64) (xw : Int32) (xp : Int32) (xr : Int32) (xe : Int32) (xh : Int32) (xb : Int32) (rv : Nat → Int64) (rm : Nat → Int32) (bc : Nat → Int32) (wn : Int32) (wf : Nat → Int32) (wt : Nat → Int32) (wv : Nat → Int64) (xq : Int32) (y1 : Int32) (y2 : Int32) (y3 : Int64) (post : (Nat → Int64) → (Nat → Int32) → (Nat → Int32) → Int32 → (Nat → Int32) → (Nat → Int32) → (Nat → Int64) → Int32 → Prop) : Prop := wp_Work_write_18 rn rc xw xp xr xe xh xb rv rm bc wn wf wt wv 1 y1 y2 y3 post
def wp_Work_write (rn : Int32) (rc : Nat → Int64) (rv : Nat → Int64) (rm : Nat → Int32) (bc : Nat → Int32) (wn : Int32) (wf : Nat → Int32) (wt : Nat → Int32) (wv : Nat → Int64) (xw : Int32) (xp : Int32) (xr : Int32) (xq : Int32) (xe : Int32) (xh : Int32) (xb : Int32) (p0 : Int32) (p1 : Int32) (p2 : Int64) (post : (Nat → Int64) → (Nat → Int32) → (Nat → Int32) → Int32 → (Nat → Int32) → (Nat → Int32) → (Nat → Int64) → Int32 → Prop) : Prop := (if p1 = 0 then (if p0 = 0 then wp_Work_write_13 rn rc xw xp xr xe xh xb rv rm bc wn wf wt wv xq p0 p1 p2 post else (if p0 = 1 then wp_Work_write_13 rn rc xw xp xr xe xh xb rv rm bc wn wf wt wv xq p0 p1 p2 post else wp_Work_write_18 rn rc xw xp xr xe xh xb rv rm bc wn wf wt wv xq p0 p1 p2 post)) else wp_Work_write_18 rn rc xw xp xr xe xh xb rv rm bc wn wf wt wv xq p0 p1 p2 post)
set_option maxHeartbeats 4000000 in
set_option maxRecDepth 100000 in
theorem c_Work_write (l : Launch) (D : va_G) (kT : Nat → ClassId) (ad : Nat → Nat) (rn : Int32) (rc : Nat → Int64) (rv : Nat → Int64) (rm : Nat → Int32) (bc : Nat → Int32) (wn : Int32) (wf : Nat → Int32) (wt : Nat → Int32) (wv : Nat → Int64) (xw : Int32) (xp : Int32) (xr : Int32) (xq : Int32) (xe : Int32) (xh : Int32) (xb : Int32) (p0 : Int32) (p1 : Int32) (p2 : Int64) (post : (Nat → Int64) → (Nat → Int32) → (Nat → Int32) → Int32 → (Nat → Int32) → (Nat → Int32) → (Nat → Int64) → Int32 → Prop) (h : wp_Work_write rn rc rv rm bc wn wf wt wv xw xp xr xq xe xh xb p0 p1 p2 post) : zq_Mv l zy_Work_write zs_Work_write ({ frames := 2, cells := 0, slots := 0, locals := 48 }) D kT [.ref (ad 32), .int p0, .int p1, .long p2] (W_Work_write kT ad rn rc rv rm bc wn wf wt wv xw xp xr xq xe xh xb) (fun w' => ∃ (rv' : Nat → Int64) (rm' : Nat → Int32) (bc' : Nat → Int32) (wn' : Int32) (wf' : Nat → Int32) (wt' : Nat → Int32) (wv' : Nat → Int64) (xq' : Int32), w' = (W_Work_write kT ad rn rc rv' rm' bc' wn' wf' wt' wv' xw xp xr xq' xe xh xb) ∧ post  rv' rm' bc' wn' wf' wt' wv' xq') := by
  refine zq_Mv_of (adl := (A_Work_write ad)) (cc := zb_Work_write) (maxL := 5) (own := zR_Work) rfl (by decide) rfl rfl (Nat.le_of_ble_eq_true rfl) ?_
  intro p e s m AV below meth c A QQ H locs ls hx hb hml hown ht hE hA hret hP hD hS hl
  have hK := hE.1
  have hl : lv_has ls 5 [(0, .ref (ad 32)), (1, .int p0), (2, .int p1), (3, .long p2)] := hl
  have B52 : ∀  (rv : Nat → Int64) (rm : Nat → Int32) (bc : Nat → Int32) (wn : Int32) (wf : Nat → Int32) (wt : Nat → Int32) (wv : Nat → Int64) (xq : Int32) (y1 : Int32) (y2 : Int32) (y3 : Int64) (H : Heap) (locs : List Loc) (ls : Array Slot), wp_Work_write_52 rn rc xw xp xr xe xh xb rv rm bc wn wf wt wv xq y1 y2 y3 post → va_P D vwCl (W_Work_write kT ad rn rc rv rm bc wn wf wt wv xw xp xr xq xe xh xb) H → va_D A (W_Work_write kT ad rn rc rv rm bc wn wf wt wv xw xp xr xq xe xh xb) → va_S A s.heap H locs → lv_has ls 5 [(0, .ref (ad 32)), (1, .int y1), (2, .int y2), (3, .long y3)] → W p l e ({ frames := 2, cells := 0, slots := 0, locals := 48 }) s m AV below meth c H locs 0 0 QQ (F0 m 52 ls []) := by
    intro rv rm bc wn wf wt wv xq y1 y2 y3 H locs ls h hP hD hS hl
    refine lv_aload_n hx hb zd_Work_write_52 rfl (lv_at hl 0 rfl) ?_
    refine va_get (D := D) (ci := 7) (v := .ref (ad 28)) (C := zR_Work) (T := zF_Work) (N := 14) hx hb ht zi_Work hown hK hP 10 rfl rfl 5 (by decide) (ht _ zw_225) (fun _ h9 => h9) rfl zd_Work_write_53 ?_
    refine lv_iload_n hx hb zd_Work_write_56 rfl (lv_at hl 1 rfl) ?_
    refine lv_iload_n hx hb zd_Work_write_57 rfl (lv_at hl 2 rfl) ?_
    refine lv_lload_n hx hb zd_Work_write_58 rfl (lv_at hl 3 rfl) ?_
    refine zq_c_Vv (rest := []) (adl := (A_Work_write ad)) (wr := [(ad 29, .inl (kT 0, 200, .inl wf)), (ad 30, .inl (kT 0, 200, .inl wt)), (ad 31, .inl (kT 1, 200, .inr (.inl wv))), (ad 32, .inr (7, [.ref (ad 1), .ref (ad 5), .ref (ad 7), .ref (ad 12), .ref (ad 22), .ref (ad 28), .ref (ad 34), .int xw, .int xp, .int xr, .int xq, .int xe, .int xh, .int xb]))]) ⟨hx, hb, hml, hown, ht⟩ (c_Writes_perform l D kT ad rn rc rv rm bc wn y1 y2 y3 _ h) (cwV 3 ht (zq_gV zw_240 zw_209 zw_210 zw_192 zw_211) rfl rfl rfl zh_Writes_perform ⟨Nat.le_of_ble_eq_true rfl, Nat.le_of_ble_eq_true rfl⟩) hE hP hD hS hA [0, 1, 2, 3, 4, 5, 6] [7, 8, 9, 10] 11 rfl (by decide +kernel) rfl (by decide +kernel) rfl rfl 6 rfl rfl rfl rfl hl.1 (Nat.le_of_ble_eq_true rfl) rfl zd_Work_write_59 ⟨Nat.zero_le _, Nat.zero_le _⟩ (fun w1 H locs hw hJ hS => ?_)
    obtain ⟨rv_16, rm_17, bc_18, rfl, h⟩ := hw
    obtain ⟨hP, hD⟩ := hJ (W_Work_write kT ad rn rc rv_16 rm_17 bc_18 wn wf wt wv xw xp xr xq xe xh xb) rfl rfl rfl
    exact hret  _ H locs 62 ls ⟨rv_16, rm_17, bc_18, wn, wf, wt, wv, xq, rfl, h⟩ hP rfl hS zd_Work_write_62
  have B18 : ∀  (rv : Nat → Int64) (rm : Nat → Int32) (bc : Nat → Int32) (wn : Int32) (wf : Nat → Int32) (wt : Nat → Int32) (wv : Nat → Int64) (xq : Int32) (y1 : Int32) (y2 : Int32) (y3 : Int64) (H : Heap) (locs : List Loc) (ls : Array Slot), wp_Work_write_18 rn rc xw xp xr xe xh xb rv rm bc wn wf wt wv xq y1 y2 y3 post → va_P D vwCl (W_Work_write kT ad rn rc rv rm bc wn wf wt wv xw xp xr xq xe xh xb) H → va_D A (W_Work_write kT ad rn rc rv rm bc wn wf wt wv xw xp xr xq xe xh xb) → va_S A s.heap H locs → lv_has ls 5 [(0, .ref (ad 32)), (1, .int y1), (2, .int y2), (3, .long y3)] → W p l e ({ frames := 2, cells := 0, slots := 0, locals := 48 }) s m AV below meth c H locs 0 0 QQ (F0 m 18 ls []) := by
    intro rv rm bc wn wf wt wv xq y1 y2 y3 H locs ls h hP hD hS hl
    refine lv_aload_n hx hb zd_Work_write_18 rfl (lv_at hl 0 rfl) ?_
    refine va_get (D := D) (ci := 7) (v := .int xp) (C := zR_Work) (T := zF_Work) (N := 14) hx hb ht zi_Work hown hK hP 10 rfl rfl 8 (by decide) (ht _ zw_219) (fun _ h9 => h9) rfl zd_Work_write_19 ?_
    refine lv_if_eq (tgt := 36) hx hb zd_Work_write_22 (by decide) (fun c_4 => ?_) (fun c_4 => ?_)
    · have h := zq_it c_4 h
      refine lv_aload_n hx hb zd_Work_write_36 rfl (lv_at hl 0 rfl) ?_
      refine va_get (D := D) (ci := 7) (v := .int xr) (C := zR_Work) (T := zF_Work) (N := 14) hx hb ht zi_Work hown hK hP 10 rfl rfl 9 (by decide) (ht _ zw_220) (fun _ h9 => h9) rfl zd_Work_write_37 ?_
      refine lv_if_eq (tgt := 52) hx hb zd_Work_write_40 (by decide) (fun c_5 => ?_) (fun c_5 => ?_)
      · have h := zq_it c_5 h
        exact B52 rv rm bc wn wf wt wv xq y1 y2 y3 H locs ls h hP hD hS (lv_sub hl [0, 1, 2, 3] rfl)
      · have h := zq_if c_5 h
        refine lv_aload_n hx hb zd_Work_write_43 rfl (lv_at hl 0 rfl) ?_
        refine va_get (D := D) (ci := 7) (v := .ref (ad 28)) (C := zR_Work) (T := zF_Work) (N := 14) hx hb ht zi_Work hown hK hP 10 rfl rfl 5 (by decide) (ht _ zw_225) (fun _ h9 => h9) rfl zd_Work_write_44 ?_
        refine lv_iload_n hx hb zd_Work_write_47 rfl (lv_at hl 1 rfl) ?_
        refine lv_iload_n hx hb zd_Work_write_48 rfl (lv_at hl 2 rfl) ?_
        refine zq_c_Vv (rest := []) (adl := (A_Work_write ad)) (wr := [(ad 2, .inl (kT 1, 24, .inr (.inl rc))), (ad 32, .inr (7, [.ref (ad 1), .ref (ad 5), .ref (ad 7), .ref (ad 12), .ref (ad 22), .ref (ad 28), .ref (ad 34), .int xw, .int xp, .int xr, .int xq, .int xe, .int xh, .int xb]))]) ⟨hx, hb, hml, hown, ht⟩ (c_Writes_noteReverse l D kT ad rn rv rm bc wn wf wt wv y1 y2 _ h) (cwV 2 ht (zq_gV zw_235 zw_236 zw_237 zw_192 zw_238) rfl rfl rfl zh_Writes_noteReverse ⟨Nat.le_of_ble_eq_true rfl, Nat.le_of_ble_eq_true rfl⟩) hE hP hD hS hA [0, 2, 3, 4, 5, 6, 7, 8, 9] [1, 10] 11 rfl (by decide +kernel) rfl (by decide +kernel) rfl rfl 5 rfl rfl rfl rfl hl.1 (Nat.le_of_ble_eq_true rfl) rfl zd_Work_write_49 ⟨Nat.zero_le _, Nat.zero_le _⟩ (fun w1 H locs hw hJ hS => ?_)
        obtain ⟨wn_6, wf_7, wt_8, wv_9, rfl, h⟩ := hw
        obtain ⟨hP, hD⟩ := hJ (W_Work_write kT ad rn rc rv rm bc wn_6 wf_7 wt_8 wv_9 xw xp xr xq xe xh xb) rfl rfl rfl
        exact B52 rv rm bc wn_6 wf_7 wt_8 wv_9 xq y1 y2 y3 H locs ls h hP hD hS (lv_sub hl [0, 1, 2, 3] rfl)
    · have h := zq_if c_4 h
      refine lv_aload_n hx hb zd_Work_write_25 rfl (lv_at hl 0 rfl) ?_
      refine va_get (D := D) (ci := 7) (v := .ref (ad 28)) (C := zR_Work) (T := zF_Work) (N := 14) hx hb ht zi_Work hown hK hP 10 rfl rfl 5 (by decide) (ht _ zw_225) (fun _ h9 => h9) rfl zd_Work_write_26 ?_
      refine lv_iload_n hx hb zd_Work_write_29 rfl (lv_at hl 1 rfl) ?_
      refine lv_iload_n hx hb zd_Work_write_30 rfl (lv_at hl 2 rfl) ?_
      refine lv_lload_n hx hb zd_Work_write_31 rfl (lv_at hl 3 rfl) ?_
      refine zq_c_Vv (rest := []) (adl := (A_Work_write ad)) (wr := [(ad 1, .inr (0, [.ref (ad 2), .ref (ad 3), .ref (ad 4), .int rn])), (ad 2, .inl (kT 1, 24, .inr (.inl rc))), (ad 3, .inl (kT 1, 24, .inr (.inl rv))), (ad 4, .inl (kT 2, 24, .inl rm)), (ad 5, .inr (1, [.ref (ad 6)])), (ad 6, .inl (kT 3, 4096, .inl bc)), (ad 32, .inr (7, [.ref (ad 1), .ref (ad 5), .ref (ad 7), .ref (ad 12), .ref (ad 22), .ref (ad 28), .ref (ad 34), .int xw, .int xp, .int xr, .int xq, .int xe, .int xh, .int xb]))]) ⟨hx, hb, hml, hown, ht⟩ (c_Writes_note l D kT ad wn wf wt wv y1 y2 y3 _ h) (cwV 3 ht (zq_gV zw_239 zw_190 zw_191 zw_192 zw_193) rfl rfl rfl zh_Writes_note ⟨Nat.le_of_ble_eq_true rfl, Nat.le_of_ble_eq_true rfl⟩) hE hP hD hS hA [6, 7, 8, 9] [0, 1, 2, 3, 4, 5, 10] 11 rfl (by decide +kernel) rfl (by decide +kernel) rfl rfl 0 rfl rfl rfl rfl hl.1 (Nat.le_of_ble_eq_true rfl) rfl zd_Work_write_32 ⟨Nat.zero_le _, Nat.zero_le _⟩ (fun w1 H locs hw hJ hS => ?_)
      obtain ⟨wn_11, wf_12, wt_13, wv_14, rfl, h⟩ := hw
      obtain ⟨hP, hD⟩ := hJ (W_Work_write kT ad rn rc rv rm bc wn_11 wf_12 wt_13 wv_14 xw xp xr xq xe xh xb) rfl rfl rfl
      exact hret  _ H locs 35 ls ⟨rv, rm, bc, wn_11, wf_12, wt_13, wv_14, xq, rfl, h⟩ hP rfl hS zd_Work_write_35
  have B13 : ∀  (rv : Nat → Int64) (rm : Nat → Int32) (bc : Nat → Int32) (wn : Int32) (wf : Nat → Int32) (wt : Nat → Int32) (wv : Nat → Int64) (xq : Int32) (y1 : Int32) (y2 : Int32) (y3 : Int64) (H : Heap) (locs : List Loc) (ls : Array Slot), wp_Work_write_13 rn rc xw xp xr xe xh xb rv rm bc wn wf wt wv xq y1 y2 y3 post → va_P D vwCl (W_Work_write kT ad rn rc rv rm bc wn wf wt wv xw xp xr xq xe xh xb) H → va_D A (W_Work_write kT ad rn rc rv rm bc wn wf wt wv xw xp xr xq xe xh xb) → va_S A s.heap H locs → lv_has ls 5 [(0, .ref (ad 32)), (1, .int y1), (2, .int y2), (3, .long y3)] → W p l e ({ frames := 2, cells := 0, slots := 0, locals := 48 }) s m AV below meth c H locs 0 0 QQ (F0 m 13 ls []) := by
    intro rv rm bc wn wf wt wv xq y1 y2 y3 H locs ls h hP hD hS hl
    refine lv_aload_n hx hb zd_Work_write_13 rfl (lv_at hl 0 rfl) ?_
    refine lv_iconst (v := 1) hx hb zd_Work_write_14 (by decide) ?_
    refine va_put (D := D) (ci := 7) (v := .int 1) (ty := .boolean) (C := zR_Work) (T := zF_Work) (N := 14) hx hb ht zi_Work zt_Work zt_Work_ok zn_Work hown hK hP hD hS 10 rfl rfl 10 (by decide) (ht _ zw_221) (fun _ h9 => h9) rfl (by decide +kernel) rfl rfl (Nat.le_of_ble_eq_true rfl) zd_Work_write_15 (fun H locs hP hD hS => ?_)
    have hP : va_P D vwCl (W_Work_write kT ad rn rc rv rm bc wn wf wt wv xw xp xr 1 xe xh xb) H := hP
    have hD : va_D A (W_Work_write kT ad rn rc rv rm bc wn wf wt wv xw xp xr 1 xe xh xb) := hD
    exact B18 rv rm bc wn wf wt wv 1 y1 y2 y3 H locs ls h hP hD hS (lv_sub hl [0, 1, 2, 3] rfl)
  refine lv_iload_n hx hb zd_Work_write_0 rfl (lv_at hl 2 rfl) ?_
  refine lv_if_ne (tgt := 18) hx hb zd_Work_write_1 (by decide) (fun c_1 => ?_) (fun c_1 => ?_)
  · have h := zq_if c_1 h
    exact B18 rv rm bc wn wf wt wv xq p0 p1 p2 H locs ls h hP hD hS (lv_sub hl [0, 1, 2, 3] rfl)
  · have h := zq_it c_1 h
    refine lv_iload_n hx hb zd_Work_write_4 rfl (lv_at hl 1 rfl) ?_
    refine lv_if_eq (tgt := 13) hx hb zd_Work_write_5 (by decide) (fun c_2 => ?_) (fun c_2 => ?_)
    · have h := zq_it c_2 h
      exact B13 rv rm bc wn wf wt wv xq p0 p1 p2 H locs ls h hP hD hS (lv_sub hl [0, 1, 2, 3] rfl)
    · have h := zq_if c_2 h
      refine lv_iload_n hx hb zd_Work_write_8 rfl (lv_at hl 1 rfl) ?_
      refine lv_iconst (v := 1) hx hb zd_Work_write_9 (by decide) ?_
      refine lv_icmp_ne (tgt := 18) hx hb zd_Work_write_10 (by decide) (fun c_3 => ?_) (fun c_3 => ?_)
      · have h := zq_if c_3 h
        exact B18 rv rm bc wn wf wt wv xq p0 p1 p2 H locs ls h hP hD hS (lv_sub hl [0, 1, 2, 3] rfl)
      · have h := zq_it c_3 h
        exact B13 rv rm bc wn wf wt wv xq p0 p1 p2 H locs ls h hP hD hS (lv_sub hl [0, 1, 2, 3] rfl)
abbrev W_Work_divide (kT : Nat → ClassId) (ad : Nat → Nat) (rn : Int32) (rc : Nat → Int64) (rv : Nat → Int64) (rm : Nat → Int32) (bc : Nat → Int32) (wn : Int32) (wf : Nat → Int32) (wt : Nat → Int32) (wv : Nat → Int64) (xw : Int32) (xp : Int32) (xr : Int32) (xq : Int32) (xe : Int32) (xh : Int32) (xb : Int32) : va_W := [(ad 1, .inr (0, [.ref (ad 2), .ref (ad 3), .ref (ad 4), .int rn])), (ad 2, .inl (kT 1, 24, .inr (.inl rc))), (ad 3, .inl (kT 1, 24, .inr (.inl rv))), (ad 4, .inl (kT 2, 24, .inl rm)), (ad 5, .inr (1, [.ref (ad 6)])), (ad 6, .inl (kT 3, 4096, .inl bc)), (ad 28, .inr (6, [.ref (ad 1), .ref (ad 5), .ref (ad 29), .ref (ad 30), .ref (ad 31), .int wn])), (ad 29, .inl (kT 0, 200, .inl wf)), (ad 30, .inl (kT 0, 200, .inl wt)), (ad 31, .inl (kT 1, 200, .inr (.inl wv))), (ad 32, .inr (7, [.ref (ad 1), .ref (ad 5), .ref (ad 7), .ref (ad 12), .ref (ad 22), .ref (ad 28), .ref (ad 34), .int xw, .int xp, .int xr, .int xq, .int xe, .int xh, .int xb]))]
abbrev A_Work_divide (ad : Nat → Nat) : List Nat := [ad 1, ad 2, ad 3, ad 4, ad 5, ad 6, ad 28, ad 29, ad 30, ad 31, ad 32]
def wp_Work_divide (rn : Int32) (rc : Nat → Int64) (rv : Nat → Int64) (rm : Nat → Int32) (bc : Nat → Int32) (wn : Int32) (wf : Nat → Int32) (wt : Nat → Int32) (wv : Nat → Int64) (xw : Int32) (xp : Int32) (xr : Int32) (xq : Int32) (xe : Int32) (xh : Int32) (xb : Int32) (p0 : Int32) (p1 : Int64) (p2 : Int64) (p3 : Int32) (p4 : Int32) (post : Int32 → (Nat → Int64) → (Nat → Int32) → (Nat → Int32) → Int32 → (Nat → Int32) → (Nat → Int32) → (Nat → Int64) → Int32 → Prop) : Prop := (if p2 = 0 then post 4 rv rm bc wn wf wt wv xq else wp_Work_quotient p1 p2 (fun r_2 => (if p0 = 4 then wp_Work_write rn rc rv rm bc wn wf wt wv xw xp xr xq xe xh xb p4 p3 r_2 (fun rv_13 rm_14 bc_15 wn_16 wf_17 wt_18 wv_19 xq_20 => post 0 rv_13 rm_14 bc_15 wn_16 wf_17 wt_18 wv_19 xq_20) else wp_Work_write rn rc rv rm bc wn wf wt wv xw xp xr xq xe xh xb p4 p3 (p1 - (r_2 * p2)) (fun rv_4 rm_5 bc_6 wn_7 wf_8 wt_9 wv_10 xq_11 => post 0 rv_4 rm_5 bc_6 wn_7 wf_8 wt_9 wv_10 xq_11))))
set_option maxHeartbeats 4000000 in
set_option maxRecDepth 100000 in
theorem c_Work_divide (l : Launch) (D : va_G) (kT : Nat → ClassId) (ad : Nat → Nat) (rn : Int32) (rc : Nat → Int64) (rv : Nat → Int64) (rm : Nat → Int32) (bc : Nat → Int32) (wn : Int32) (wf : Nat → Int32) (wt : Nat → Int32) (wv : Nat → Int64) (xw : Int32) (xp : Int32) (xr : Int32) (xq : Int32) (xe : Int32) (xh : Int32) (xb : Int32) (p0 : Int32) (p1 : Int64) (p2 : Int64) (p3 : Int32) (p4 : Int32) (post : Int32 → (Nat → Int64) → (Nat → Int32) → (Nat → Int32) → Int32 → (Nat → Int32) → (Nat → Int32) → (Nat → Int64) → Int32 → Prop) (h : wp_Work_divide rn rc rv rm bc wn wf wt wv xw xp xr xq xe xh xb p0 p1 p2 p3 p4 post) : zq_Mi l zy_Work_divide zs_Work_divide ({ frames := 3, cells := 0, slots := 0, locals := 72 }) D kT [.ref (ad 32), .int p0, .long p1, .long p2, .int p3, .int p4] (W_Work_divide kT ad rn rc rv rm bc wn wf wt wv xw xp xr xq xe xh xb) (fun r w' => ∃ (rv' : Nat → Int64) (rm' : Nat → Int32) (bc' : Nat → Int32) (wn' : Int32) (wf' : Nat → Int32) (wt' : Nat → Int32) (wv' : Nat → Int64) (xq' : Int32), w' = (W_Work_divide kT ad rn rc rv' rm' bc' wn' wf' wt' wv' xw xp xr xq' xe xh xb) ∧ post r rv' rm' bc' wn' wf' wt' wv' xq') := by
  refine zq_Mi_of (adl := (A_Work_divide ad)) (cc := zb_Work_divide) (maxL := 10) (own := zR_Work) rfl (by decide) rfl rfl (Nat.le_of_ble_eq_true rfl) ?_
  intro p e s m AV below meth c A QQ H locs ls hx hb hml hown ht hE hA hret hP hD hS hl
  have hK := hE.1
  have hl : lv_has ls 10 [(0, .ref (ad 32)), (1, .int p0), (2, .long p1), (4, .long p2), (6, .int p3), (7, .int p4)] := hl
  refine lv_lload hx hb zd_Work_divide_0 (lv_at hl 3 rfl) ?_
  refine lv_lconst (v := 0) hx hb zd_Work_divide_2 (by decide) ?_
  refine W.lcmp hx hb zd_Work_divide_3 ?_
  refine lv_if_ne (tgt := 9) hx hb zd_Work_divide_4 (by decide) (fun c_1 => ?_) (fun c_1 => ?_)
  · have h := zq_if (fun z => c_1 (zq_lc_eq.mpr z)) h
    refine lv_lload_n hx hb zd_Work_divide_9 rfl (lv_at hl 2 rfl) ?_
    refine lv_lload hx hb zd_Work_divide_10 (lv_at hl 3 rfl) ?_
    refine zq_c_Sl (rest := []) (adl := (A_Work_divide ad)) (wr := [(ad 1, .inr (0, [.ref (ad 2), .ref (ad 3), .ref (ad 4), .int rn])), (ad 2, .inl (kT 1, 24, .inr (.inl rc))), (ad 3, .inl (kT 1, 24, .inr (.inl rv))), (ad 4, .inl (kT 2, 24, .inl rm)), (ad 5, .inr (1, [.ref (ad 6)])), (ad 6, .inl (kT 3, 4096, .inl bc)), (ad 28, .inr (6, [.ref (ad 1), .ref (ad 5), .ref (ad 29), .ref (ad 30), .ref (ad 31), .int wn])), (ad 29, .inl (kT 0, 200, .inl wf)), (ad 30, .inl (kT 0, 200, .inl wt)), (ad 31, .inl (kT 1, 200, .inr (.inl wv))), (ad 32, .inr (7, [.ref (ad 1), .ref (ad 5), .ref (ad 7), .ref (ad 12), .ref (ad 22), .ref (ad 28), .ref (ad 34), .int xw, .int xp, .int xr, .int xq, .int xe, .int xh, .int xb]))]) ⟨hx, hb, hml, hown, ht⟩ (c_Work_quotient l D kT ad p1 p2 _ h) (cwS 2 ht (zq_gS zw_241 zw_242 zw_233 zw_243) rfl rfl rfl zh_Work_quotient ⟨Nat.le_of_ble_eq_true rfl, Nat.le_of_ble_eq_true rfl⟩) hE hP hD hS hA [] [0, 1, 2, 3, 4, 5, 6, 7, 8, 9, 10] 11 rfl (by decide +kernel) rfl (by decide +kernel) rfl rfl  rfl hl.1 (Nat.le_of_ble_eq_true rfl) rfl zd_Work_divide_12 ⟨Nat.zero_le _, Nat.zero_le _⟩ (fun r_2 w1 H locs hw hJ hS => ?_)
    obtain ⟨rfl, h⟩ := hw
    obtain ⟨hP, hD⟩ := hJ (W_Work_divide kT ad rn rc rv rm bc wn wf wt wv xw xp xr xq xe xh xb) rfl rfl rfl
    refine lv_lstore (lv' := [(8, .long r_2), (0, .ref (ad 32)), (1, .int p0), (2, .long p1), (4, .long p2), (6, .int p3), (7, .int p4)]) hx hb zd_Work_divide_15 hl (by decide) rfl (fun ls hl => ?_)
    refine lv_aload_n hx hb zd_Work_divide_17 rfl (lv_at hl 1 rfl) ?_
    refine lv_iload hx hb zd_Work_divide_18 (lv_at hl 6 rfl) ?_
    refine lv_iload hx hb zd_Work_divide_20 (lv_at hl 5 rfl) ?_
    refine lv_iload_n hx hb zd_Work_divide_22 rfl (lv_at hl 2 rfl) ?_
    refine lv_iconst (v := 4) hx hb zd_Work_divide_23 (by decide) ?_
    refine lv_icmp_ne (tgt := 32) hx hb zd_Work_divide_24 (by decide) (fun c_3 => ?_) (fun c_3 => ?_)
    · have h := zq_if c_3 h
      refine lv_lload_n hx hb zd_Work_divide_32 rfl (lv_at hl 3 rfl) ?_
      refine lv_lload hx hb zd_Work_divide_33 (lv_at hl 0 rfl) ?_
      refine lv_lload hx hb zd_Work_divide_35 (lv_at hl 4 rfl) ?_
      refine lv_lmul hx hb zd_Work_divide_37 ?_
      refine lv_lsub hx hb zd_Work_divide_38 ?_
      refine zq_c_Vv (rest := []) (adl := (A_Work_divide ad)) (wr := []) ⟨hx, hb, hml, hown, ht⟩ (c_Work_write l D kT ad rn rc rv rm bc wn wf wt wv xw xp xr xq xe xh xb p4 p3 (p1 - (r_2 * p2)) _ h) (cwV 3 ht (zq_gV zw_244 zw_245 zw_246 zw_233 zw_247) rfl rfl rfl zh_Work_write ⟨Nat.le_of_ble_eq_true rfl, Nat.le_of_ble_eq_true rfl⟩) hE hP hD hS hA [0, 1, 2, 3, 4, 5, 6, 7, 8, 9, 10] [] 11 rfl (by decide +kernel) rfl (by decide +kernel) rfl rfl 10 rfl rfl rfl rfl hl.1 (Nat.le_of_ble_eq_true rfl) rfl zd_Work_divide_39 ⟨Nat.zero_le _, Nat.zero_le _⟩ (fun w1 H locs hw hJ hS => ?_)
      obtain ⟨rv_4, rm_5, bc_6, wn_7, wf_8, wt_9, wv_10, xq_11, rfl, h⟩ := hw
      obtain ⟨hP, hD⟩ := hJ (W_Work_divide kT ad rn rc rv_4 rm_5 bc_6 wn_7 wf_8 wt_9 wv_10 xw xp xr xq_11 xe xh xb) rfl rfl rfl
      refine lv_iconst (v := 0) hx hb zd_Work_divide_42 (by decide) ?_
      exact hret 0  _ H locs 43 ls ⟨rv_4, rm_5, bc_6, wn_7, wf_8, wt_9, wv_10, xq_11, rfl, h⟩ hP rfl hS zd_Work_divide_43
    · have h := zq_it c_3 h
      refine lv_lload hx hb zd_Work_divide_27 (lv_at hl 0 rfl) ?_
      refine lv_goto (tgt := 39) hx hb zd_Work_divide_29 (by decide) ?_
      refine zq_c_Vv (rest := []) (adl := (A_Work_divide ad)) (wr := []) ⟨hx, hb, hml, hown, ht⟩ (c_Work_write l D kT ad rn rc rv rm bc wn wf wt wv xw xp xr xq xe xh xb p4 p3 r_2 _ h) (cwV 3 ht (zq_gV zw_244 zw_245 zw_246 zw_233 zw_247) rfl rfl rfl zh_Work_write ⟨Nat.le_of_ble_eq_true rfl, Nat.le_of_ble_eq_true rfl⟩) hE hP hD hS hA [0, 1, 2, 3, 4, 5, 6, 7, 8, 9, 10] [] 11 rfl (by decide +kernel) rfl (by decide +kernel) rfl rfl 10 rfl rfl rfl rfl hl.1 (Nat.le_of_ble_eq_true rfl) rfl zd_Work_divide_39 ⟨Nat.zero_le _, Nat.zero_le _⟩ (fun w1 H locs hw hJ hS => ?_)
      obtain ⟨rv_13, rm_14, bc_15, wn_16, wf_17, wt_18, wv_19, xq_20, rfl, h⟩ := hw
      obtain ⟨hP, hD⟩ := hJ (W_Work_divide kT ad rn rc rv_13 rm_14 bc_15 wn_16 wf_17 wt_18 wv_19 xw xp xr xq_20 xe xh xb) rfl rfl rfl
      refine lv_iconst (v := 0) hx hb zd_Work_divide_42 (by decide) ?_
      exact hret 0  _ H locs 43 ls ⟨rv_13, rm_14, bc_15, wn_16, wf_17, wt_18, wv_19, xq_20, rfl, h⟩ hP rfl hS zd_Work_divide_43
  · have h := zq_it (zq_lc_eq.mp c_1) h
    refine lv_iconst (v := 4) hx hb zd_Work_divide_7 (by decide) ?_
    exact hret 4  _ H locs 8 ls ⟨rv, rm, bc, wn, wf, wt, wv, xq, rfl, h⟩ hP rfl hS zd_Work_divide_8
abbrev W_Work_load (kT : Nat → ClassId) (ad : Nat → Nat) (rn : Int32) (rc : Nat → Int64) (rv : Nat → Int64) (rm : Nat → Int32) (bc : Nat → Int32) (wn : Int32) (wf : Nat → Int32) (wt : Nat → Int32) (wv : Nat → Int64) (xw : Int32) (xp : Int32) (xr : Int32) (xq : Int32) (xe : Int32) (xh : Int32) (xb : Int32) (cn : Nat → Int32) : va_W := [(ad 1, .inr (0, [.ref (ad 2), .ref (ad 3), .ref (ad 4), .int rn])), (ad 2, .inl (kT 1, 24, .inr (.inl rc))), (ad 3, .inl (kT 1, 24, .inr (.inl rv))), (ad 4, .inl (kT 2, 24, .inl rm)), (ad 5, .inr (1, [.ref (ad 6)])), (ad 6, .inl (kT 3, 4096, .inl bc)), (ad 28, .inr (6, [.ref (ad 1), .ref (ad 5), .ref (ad 29), .ref (ad 30), .ref (ad 31), .int wn])), (ad 29, .inl (kT 0, 200, .inl wf)), (ad 30, .inl (kT 0, 200, .inl wt)), (ad 31, .inl (kT 1, 200, .inr (.inl wv))), (ad 32, .inr (7, [.ref (ad 1), .ref (ad 5), .ref (ad 7), .ref (ad 12), .ref (ad 22), .ref (ad 28), .ref (ad 34), .int xw, .int xp, .int xr, .int xq, .int xe, .int xh, .int xb])), (ad 34, .inl (kT 0, 9, .inl cn))]
abbrev A_Work_load (ad : Nat → Nat) : List Nat := [ad 1, ad 2, ad 3, ad 4, ad 5, ad 6, ad 28, ad 29, ad 30, ad 31, ad 32, ad 34]
def wp_Work_load_51 (rn : Int32) (rc : Nat → Int64) (xw : Int32) (xp : Int32) (xr : Int32) (xe : Int32) (xh : Int32) (xb : Int32) (rv : Nat → Int64) (rm : Nat → Int32) (bc : Nat → Int32) (wn : Int32) (wf : Nat → Int32) (wt : Nat → Int32) (wv : Nat → Int64) (xq : Int32) (cn : Nat → Int32) (y1 : Int32) (y4 : Int32) (y5 : Int32) (y6 : Int32) (z0 : Int32) (z1 : Int32) (z2 : Int32) (post : Int32 → (Nat → Int64) → (Nat → Int32) → (Nat → Int32) → Int32 → (Nat → Int32) → (Nat → Int32) → (Nat → Int64) → Int32 → (Nat → Int32) → Prop) : Prop := vp_in z2 9 ∧ (if y1 = 0 then wp_Bytes_byteOf bc y6 (fun r_9 => wp_Work_write rn rc rv rm bc wn wf wt wv xw xp xr xq xe xh xb y5 y4 (zq_j_i2l r_9) (fun rv_10 rm_11 bc_12 wn_13 wf_14 wt_15 wv_16 xq_17 => post 0 rv_10 rm_11 bc_12 wn_13 wf_14 wt_15 wv_16 xq_17 (upd cn z2.toNatClampNeg (z1 + z0)))) else wp_Bytes_wordOf bc y6 (fun r_19 => wp_Work_write rn rc rv rm bc wn wf wt wv xw xp xr xq xe xh xb y5 y4 (zq_j_i2l r_19) (fun rv_20 rm_21 bc_22 wn_23 wf_24 wt_25 wv_26 xq_27 => post 0 rv_20 rm_21 bc_22 wn_23 wf_24 wt_25 wv_26 xq_27 (upd cn z2.toNatClampNeg (z1 + z0)))))
def wp_Work_load_31 (rn : Int32) (rc : Nat → Int64) (xw : Int32) (xp : Int32) (xr : Int32) (xe : Int32) (xh : Int32) (xb : Int32) (rv : Nat → Int64) (rm : Nat → Int32) (bc : Nat → Int32) (wn : Int32) (wf : Nat → Int32) (wt : Nat → Int32) (wv : Nat → Int64) (xq : Int32) (cn : Nat → Int32) (y1 : Int32) (y2 : Int64) (y4 : Int32) (y5 : Int32) (post : Int32 → (Nat → Int64) → (Nat → Int32) → (Nat → Int32) → Int32 → (Nat → Int32) → (Nat → Int32) → (Nat → Int64) → Int32 → (Nat → Int32) → Prop) : Prop := (if y1 = 0 then wp_Work_load_51 rn rc xw xp xr xe xh xb rv rm bc wn wf wt wv xq cn y1 y4 y5 (zq_j_l2i y2) 1 (cn 4) 4 post else wp_Work_load_51 rn rc xw xp xr xe xh xb rv rm bc wn wf wt wv xq cn y1 y4 y5 (zq_j_l2i y2) 2 (cn 4) 4 post)
def wp_Work_load (rn : Int32) (rc : Nat → Int64) (rv : Nat → Int64) (rm : Nat → Int32) (bc : Nat → Int32) (wn : Int32) (wf : Nat → Int32) (wt : Nat → Int32) (wv : Nat → Int64) (xw : Int32) (xp : Int32) (xr : Int32) (xq : Int32) (xe : Int32) (xh : Int32) (xb : Int32) (cn : Nat → Int32) (p0 : Int32) (p1 : Int64) (p2 : Int32) (p3 : Int32) (post : Int32 → (Nat → Int64) → (Nat → Int32) → (Nat → Int32) → Int32 → (Nat → Int32) → (Nat → Int32) → (Nat → Int64) → Int32 → (Nat → Int32) → Prop) : Prop := (if p0 = 0 then wp_Bytes_hasByte p1 (fun r_2 => (if r_2 = 0 then post 3 rv rm bc wn wf wt wv xq cn else wp_Work_load_31 rn rc xw xp xr xe xh xb rv rm bc wn wf wt wv xq cn p0 p1 p2 p3 post)) else wp_Bytes_hasWord p1 (fun r_4 => (if r_4 = 0 then post 3 rv rm bc wn wf wt wv xq cn else wp_Work_load_31 rn rc xw xp xr xe xh xb rv rm bc wn wf wt wv xq cn p0 p1 p2 p3 post)))
set_option maxHeartbeats 4000000 in
set_option maxRecDepth 100000 in
theorem c_Work_load (l : Launch) (D : va_G) (kT : Nat → ClassId) (ad : Nat → Nat) (rn : Int32) (rc : Nat → Int64) (rv : Nat → Int64) (rm : Nat → Int32) (bc : Nat → Int32) (wn : Int32) (wf : Nat → Int32) (wt : Nat → Int32) (wv : Nat → Int64) (xw : Int32) (xp : Int32) (xr : Int32) (xq : Int32) (xe : Int32) (xh : Int32) (xb : Int32) (cn : Nat → Int32) (p0 : Int32) (p1 : Int64) (p2 : Int32) (p3 : Int32) (post : Int32 → (Nat → Int64) → (Nat → Int32) → (Nat → Int32) → Int32 → (Nat → Int32) → (Nat → Int32) → (Nat → Int64) → Int32 → (Nat → Int32) → Prop) (h : wp_Work_load rn rc rv rm bc wn wf wt wv xw xp xr xq xe xh xb cn p0 p1 p2 p3 post) : zq_Mi l zy_Work_load zs_Work_load ({ frames := 3, cells := 0, slots := 0, locals := 72 }) D kT [.ref (ad 32), .int p0, .long p1, .int p2, .int p3] (W_Work_load kT ad rn rc rv rm bc wn wf wt wv xw xp xr xq xe xh xb cn) (fun r w' => ∃ (rv' : Nat → Int64) (rm' : Nat → Int32) (bc' : Nat → Int32) (wn' : Int32) (wf' : Nat → Int32) (wt' : Nat → Int32) (wv' : Nat → Int64) (xq' : Int32) (cn' : Nat → Int32), w' = (W_Work_load kT ad rn rc rv' rm' bc' wn' wf' wt' wv' xw xp xr xq' xe xh xb cn') ∧ post r rv' rm' bc' wn' wf' wt' wv' xq' cn') := by
  refine zq_Mi_of (adl := (A_Work_load ad)) (cc := zb_Work_load) (maxL := 7) (own := zR_Work) rfl (by decide) rfl rfl (Nat.le_of_ble_eq_true rfl) ?_
  intro p e s m AV below meth c A QQ H locs ls hx hb hml hown ht hE hA hret hP hD hS hl
  have hK := hE.1
  have hl : lv_has ls 7 [(0, .ref (ad 32)), (1, .int p0), (2, .long p1), (4, .int p2), (5, .int p3)] := hl
  have B51 : ∀  (rv : Nat → Int64) (rm : Nat → Int32) (bc : Nat → Int32) (wn : Int32) (wf : Nat → Int32) (wt : Nat → Int32) (wv : Nat → Int64) (xq : Int32) (cn : Nat → Int32) (y1 : Int32) (y4 : Int32) (y5 : Int32) (y6 : Int32) (z0 : Int32) (z1 : Int32) (z2 : Int32) (H : Heap) (locs : List Loc) (ls : Array Slot), wp_Work_load_51 rn rc xw xp xr xe xh xb rv rm bc wn wf wt wv xq cn y1 y4 y5 y6 z0 z1 z2 post → va_P D vwCl (W_Work_load kT ad rn rc rv rm bc wn wf wt wv xw xp xr xq xe xh xb cn) H → va_D A (W_Work_load kT ad rn rc rv rm bc wn wf wt wv xw xp xr xq xe xh xb cn) → va_S A s.heap H locs → lv_has ls 7 [(0, .ref (ad 32)), (1, .int y1), (4, .int y4), (5, .int y5), (6, .int y6)] → W p l e ({ frames := 3, cells := 0, slots := 0, locals := 72 }) s m AV below meth c H locs 0 0 QQ (F0 m 51 ls [.int z0, .int z1, .int z2, .ref (ad 34)]) := by
    intro rv rm bc wn wf wt wv xq cn y1 y4 y5 y6 z0 z1 z2 H locs ls h hP hD hS hl
    refine lv_iadd hx hb zd_Work_load_51 ?_
    obtain ⟨hi_7, h⟩ := h
    refine zq_a_iast (D := D) hx hb hK hP hD hS 11 0 rfl rfl hi_7 rfl zd_Work_load_52 (fun H locs hP hD hS => ?_)
    have hP : va_P D vwCl (W_Work_load kT ad rn rc rv rm bc wn wf wt wv xw xp xr xq xe xh xb (upd cn z2.toNatClampNeg (z1 + z0))) H := hP
    have hD : va_D A (W_Work_load kT ad rn rc rv rm bc wn wf wt wv xw xp xr xq xe xh xb (upd cn z2.toNatClampNeg (z1 + z0))) := hD
    refine lv_aload_n hx hb zd_Work_load_53 rfl (lv_at hl 0 rfl) ?_
    refine lv_iload hx hb zd_Work_load_54 (lv_at hl 3 rfl) ?_
    refine lv_iload hx hb zd_Work_load_56 (lv_at hl 2 rfl) ?_
    refine lv_iload_n hx hb zd_Work_load_58 rfl (lv_at hl 1 rfl) ?_
    refine lv_if_eq (tgt := 75) hx hb zd_Work_load_59 (by decide) (fun c_8 => ?_) (fun c_8 => ?_)
    · have h := zq_it c_8 h
      refine lv_aload_n hx hb zd_Work_load_75 rfl (lv_at hl 0 rfl) ?_
      refine va_get (D := D) (ci := 7) (v := .ref (ad 5)) (C := zR_Work) (T := zF_Work) (N := 14) hx hb ht zi_Work hown hK hP 10 rfl rfl 1 (by decide) (ht _ zw_248) (fun _ h9 => h9) rfl zd_Work_load_76 ?_
      refine lv_iload hx hb zd_Work_load_79 (lv_at hl 4 rfl) ?_
      refine zq_c_Vi (rest := [.int y4, .int y5, .ref (ad 32)]) (adl := (A_Work_load ad)) (wr := [(ad 1, .inr (0, [.ref (ad 2), .ref (ad 3), .ref (ad 4), .int rn])), (ad 2, .inl (kT 1, 24, .inr (.inl rc))), (ad 3, .inl (kT 1, 24, .inr (.inl rv))), (ad 4, .inl (kT 2, 24, .inl rm)), (ad 28, .inr (6, [.ref (ad 1), .ref (ad 5), .ref (ad 29), .ref (ad 30), .ref (ad 31), .int wn])), (ad 29, .inl (kT 0, 200, .inl wf)), (ad 30, .inl (kT 0, 200, .inl wt)), (ad 31, .inl (kT 1, 200, .inr (.inl wv))), (ad 32, .inr (7, [.ref (ad 1), .ref (ad 5), .ref (ad 7), .ref (ad 12), .ref (ad 22), .ref (ad 28), .ref (ad 34), .int xw, .int xp, .int xr, .int xq, .int xe, .int xh, .int xb])), (ad 34, .inl (kT 0, 9, .inl (upd cn z2.toNatClampNeg (z1 + z0))))]) ⟨hx, hb, hml, hown, ht⟩ (c_Bytes_byteOf l D kT ad bc y6 _ h) (cwV 1 ht (zq_gV zw_255 zw_195 zw_196 zw_134 zw_197) rfl rfl rfl zh_Bytes_byteOf ⟨Nat.le_of_ble_eq_true rfl, Nat.le_of_ble_eq_true rfl⟩) hE hP hD hS hA [4, 5] [0, 1, 2, 3, 6, 7, 8, 9, 10, 11] 12 rfl (by decide +kernel) rfl (by decide +kernel) rfl rfl 0 rfl rfl rfl rfl hl.1 (Nat.le_of_ble_eq_true rfl) rfl zd_Work_load_81 ⟨Nat.zero_le _, Nat.zero_le _⟩ (fun r_9 w1 H locs hw hJ hS => ?_)
      obtain ⟨rfl, h⟩ := hw
      obtain ⟨hP, hD⟩ := hJ (W_Work_load kT ad rn rc rv rm bc wn wf wt wv xw xp xr xq xe xh xb (upd cn z2.toNatClampNeg (z1 + z0))) rfl rfl rfl
      refine lv_i2l (v := (zq_j_i2l r_9)) hx hb zd_Work_load_84 rfl ?_
      refine zq_c_Vv (rest := []) (adl := (A_Work_load ad)) (wr := [(ad 34, .inl (kT 0, 9, .inl (upd cn z2.toNatClampNeg (z1 + z0))))]) ⟨hx, hb, hml, hown, ht⟩ (c_Work_write l D kT ad rn rc rv rm bc wn wf wt wv xw xp xr xq xe xh xb y5 y4 (zq_j_i2l r_9) _ h) (cwV 3 ht (zq_gV zw_244 zw_245 zw_246 zw_233 zw_247) rfl rfl rfl zh_Work_write ⟨Nat.le_of_ble_eq_true rfl, Nat.le_of_ble_eq_true rfl⟩) hE hP hD hS hA [0, 1, 2, 3, 4, 5, 6, 7, 8, 9, 10] [11] 12 rfl (by decide +kernel) rfl (by decide +kernel) rfl rfl 10 rfl rfl rfl rfl hl.1 (Nat.le_of_ble_eq_true rfl) rfl zd_Work_load_85 ⟨Nat.zero_le _, Nat.zero_le _⟩ (fun w1 H locs hw hJ hS => ?_)
      obtain ⟨rv_10, rm_11, bc_12, wn_13, wf_14, wt_15, wv_16, xq_17, rfl, h⟩ := hw
      obtain ⟨hP, hD⟩ := hJ (W_Work_load kT ad rn rc rv_10 rm_11 bc_12 wn_13 wf_14 wt_15 wv_16 xw xp xr xq_17 xe xh xb (upd cn z2.toNatClampNeg (z1 + z0))) rfl rfl rfl
      refine lv_iconst (v := 0) hx hb zd_Work_load_88 (by decide) ?_
      exact hret 0  _ H locs 89 ls ⟨rv_10, rm_11, bc_12, wn_13, wf_14, wt_15, wv_16, xq_17, (upd cn z2.toNatClampNeg (z1 + z0)), rfl, h⟩ hP rfl hS zd_Work_load_89
    · have h := zq_if c_8 h
      refine lv_aload_n hx hb zd_Work_load_62 rfl (lv_at hl 0 rfl) ?_
      refine va_get (D := D) (ci := 7) (v := .ref (ad 5)) (C := zR_Work) (T := zF_Work) (N := 14) hx hb ht zi_Work hown hK hP 10 rfl rfl 1 (by decide) (ht _ zw_248) (fun _ h9 => h9) rfl zd_Work_load_63 ?_
      refine lv_iload hx hb zd_Work_load_66 (lv_at hl 4 rfl) ?_
      refine zq_c_Vi (rest := [.int y4, .int y5, .ref (ad 32)]) (adl := (A_Work_load ad)) (wr := [(ad 1, .inr (0, [.ref (ad 2), .ref (ad 3), .ref (ad 4), .int rn])), (ad 2, .inl (kT 1, 24, .inr (.inl rc))), (ad 3, .inl (kT 1, 24, .inr (.inl rv))), (ad 4, .inl (kT 2, 24, .inl rm)), (ad 28, .inr (6, [.ref (ad 1), .ref (ad 5), .ref (ad 29), .ref (ad 30), .ref (ad 31), .int wn])), (ad 29, .inl (kT 0, 200, .inl wf)), (ad 30, .inl (kT 0, 200, .inl wt)), (ad 31, .inl (kT 1, 200, .inr (.inl wv))), (ad 32, .inr (7, [.ref (ad 1), .ref (ad 5), .ref (ad 7), .ref (ad 12), .ref (ad 22), .ref (ad 28), .ref (ad 34), .int xw, .int xp, .int xr, .int xq, .int xe, .int xh, .int xb])), (ad 34, .inl (kT 0, 9, .inl (upd cn z2.toNatClampNeg (z1 + z0))))]) ⟨hx, hb, hml, hown, ht⟩ (c_Bytes_wordOf l D kT ad bc y6 _ h) (cwV 1 ht (zq_gV zw_256 zw_186 zw_187 zw_134 zw_188) rfl rfl rfl zh_Bytes_wordOf ⟨Nat.le_of_ble_eq_true rfl, Nat.le_of_ble_eq_true rfl⟩) hE hP hD hS hA [4, 5] [0, 1, 2, 3, 6, 7, 8, 9, 10, 11] 12 rfl (by decide +kernel) rfl (by decide +kernel) rfl rfl 0 rfl rfl rfl rfl hl.1 (Nat.le_of_ble_eq_true rfl) rfl zd_Work_load_68 ⟨Nat.zero_le _, Nat.zero_le _⟩ (fun r_19 w1 H locs hw hJ hS => ?_)
      obtain ⟨rfl, h⟩ := hw
      obtain ⟨hP, hD⟩ := hJ (W_Work_load kT ad rn rc rv rm bc wn wf wt wv xw xp xr xq xe xh xb (upd cn z2.toNatClampNeg (z1 + z0))) rfl rfl rfl
      refine lv_i2l (v := (zq_j_i2l r_19)) hx hb zd_Work_load_71 rfl ?_
      refine lv_goto (tgt := 85) hx hb zd_Work_load_72 (by decide) ?_
      refine zq_c_Vv (rest := []) (adl := (A_Work_load ad)) (wr := [(ad 34, .inl (kT 0, 9, .inl (upd cn z2.toNatClampNeg (z1 + z0))))]) ⟨hx, hb, hml, hown, ht⟩ (c_Work_write l D kT ad rn rc rv rm bc wn wf wt wv xw xp xr xq xe xh xb y5 y4 (zq_j_i2l r_19) _ h) (cwV 3 ht (zq_gV zw_244 zw_245 zw_246 zw_233 zw_247) rfl rfl rfl zh_Work_write ⟨Nat.le_of_ble_eq_true rfl, Nat.le_of_ble_eq_true rfl⟩) hE hP hD hS hA [0, 1, 2, 3, 4, 5, 6, 7, 8, 9, 10] [11] 12 rfl (by decide +kernel) rfl (by decide +kernel) rfl rfl 10 rfl rfl rfl rfl hl.1 (Nat.le_of_ble_eq_true rfl) rfl zd_Work_load_85 ⟨Nat.zero_le _, Nat.zero_le _⟩ (fun w1 H locs hw hJ hS => ?_)
      obtain ⟨rv_20, rm_21, bc_22, wn_23, wf_24, wt_25, wv_26, xq_27, rfl, h⟩ := hw
      obtain ⟨hP, hD⟩ := hJ (W_Work_load kT ad rn rc rv_20 rm_21 bc_22 wn_23 wf_24 wt_25 wv_26 xw xp xr xq_27 xe xh xb (upd cn z2.toNatClampNeg (z1 + z0))) rfl rfl rfl
      refine lv_iconst (v := 0) hx hb zd_Work_load_88 (by decide) ?_
      exact hret 0  _ H locs 89 ls ⟨rv_20, rm_21, bc_22, wn_23, wf_24, wt_25, wv_26, xq_27, (upd cn z2.toNatClampNeg (z1 + z0)), rfl, h⟩ hP rfl hS zd_Work_load_89
  have B31 : ∀  (rv : Nat → Int64) (rm : Nat → Int32) (bc : Nat → Int32) (wn : Int32) (wf : Nat → Int32) (wt : Nat → Int32) (wv : Nat → Int64) (xq : Int32) (cn : Nat → Int32) (y1 : Int32) (y2 : Int64) (y4 : Int32) (y5 : Int32) (H : Heap) (locs : List Loc) (ls : Array Slot), wp_Work_load_31 rn rc xw xp xr xe xh xb rv rm bc wn wf wt wv xq cn y1 y2 y4 y5 post → va_P D vwCl (W_Work_load kT ad rn rc rv rm bc wn wf wt wv xw xp xr xq xe xh xb cn) H → va_D A (W_Work_load kT ad rn rc rv rm bc wn wf wt wv xw xp xr xq xe xh xb cn) → va_S A s.heap H locs → lv_has ls 7 [(0, .ref (ad 32)), (1, .int y1), (2, .long y2), (4, .int y4), (5, .int y5)] → W p l e ({ frames := 3, cells := 0, slots := 0, locals := 72 }) s m AV below meth c H locs 0 0 QQ (F0 m 31 ls []) := by
    intro rv rm bc wn wf wt wv xq cn y1 y2 y4 y5 H locs ls h hP hD hS hl
    refine lv_lload_n hx hb zd_Work_load_31 rfl (lv_at hl 2 rfl) ?_
    refine lv_l2i (v := (zq_j_l2i y2)) hx hb zd_Work_load_32 rfl ?_
    refine lv_istore (lv' := [(6, .int (zq_j_l2i y2)), (0, .ref (ad 32)), (1, .int y1), (2, .long y2), (4, .int y4), (5, .int y5)]) hx hb zd_Work_load_33 hl (by decide) rfl (fun ls hl => ?_)
    refine lv_aload_n hx hb zd_Work_load_35 rfl (lv_at hl 1 rfl) ?_
    refine va_get (D := D) (ci := 7) (v := .ref (ad 34)) (C := zR_Work) (T := zF_Work) (N := 14) hx hb ht zi_Work hown hK hP 10 rfl rfl 6 (by decide) (ht _ zw_254) (fun _ h9 => h9) rfl zd_Work_load_36 ?_
    refine lv_iconst (v := 4) hx hb zd_Work_load_39 (by decide) ?_
    refine lv_dup2_11 hx hb zd_Work_load_40 rfl rfl ?_
    refine zq_a_iald (D := D) (j := 4) hx hb hK hP 11 0 rfl rfl (zq_in (by decide)) (by decide) zd_Work_load_41 ?_
    refine lv_iload_n hx hb zd_Work_load_42 rfl (lv_at hl 2 rfl) ?_
    refine lv_if_eq (tgt := 50) hx hb zd_Work_load_43 (by decide) (fun c_6 => ?_) (fun c_6 => ?_)
    · have h := zq_it c_6 h
      refine lv_iconst (v := 1) hx hb zd_Work_load_50 (by decide) ?_
      exact B51 rv rm bc wn wf wt wv xq cn y1 y4 y5 (zq_j_l2i y2) 1 (cn 4) 4 H locs ls h hP hD hS (lv_sub hl [1, 2, 4, 5, 0] rfl)
    · have h := zq_if c_6 h
      refine lv_iconst (v := 2) hx hb zd_Work_load_46 (by decide) ?_
      refine lv_goto (tgt := 51) hx hb zd_Work_load_47 (by decide) ?_
      exact B51 rv rm bc wn wf wt wv xq cn y1 y4 y5 (zq_j_l2i y2) 2 (cn 4) 4 H locs ls h hP hD hS (lv_sub hl [1, 2, 4, 5, 0] rfl)
  refine lv_iload_n hx hb zd_Work_load_0 rfl (lv_at hl 1 rfl) ?_
  refine lv_if_eq (tgt := 18) hx hb zd_Work_load_1 (by decide) (fun c_1 => ?_) (fun c_1 => ?_)
  · have h := zq_it c_1 h
    refine lv_aload_n hx hb zd_Work_load_18 rfl (lv_at hl 0 rfl) ?_
    refine va_get (D := D) (ci := 7) (v := .ref (ad 5)) (C := zR_Work) (T := zF_Work) (N := 14) hx hb ht zi_Work hown hK hP 10 rfl rfl 1 (by decide) (ht _ zw_248) (fun _ h9 => h9) rfl zd_Work_load_19 ?_
    refine lv_lload_n hx hb zd_Work_load_22 rfl (lv_at hl 2 rfl) ?_
    refine zq_c_Vi (rest := []) (adl := (A_Work_load ad)) (wr := [(ad 1, .inr (0, [.ref (ad 2), .ref (ad 3), .ref (ad 4), .int rn])), (ad 2, .inl (kT 1, 24, .inr (.inl rc))), (ad 3, .inl (kT 1, 24, .inr (.inl rv))), (ad 4, .inl (kT 2, 24, .inl rm)), (ad 6, .inl (kT 3, 4096, .inl bc)), (ad 28, .inr (6, [.ref (ad 1), .ref (ad 5), .ref (ad 29), .ref (ad 30), .ref (ad 31), .int wn])), (ad 29, .inl (kT 0, 200, .inl wf)), (ad 30, .inl (kT 0, 200, .inl wt)), (ad 31, .inl (kT 1, 200, .inr (.inl wv))), (ad 32, .inr (7, [.ref (ad 1), .ref (ad 5), .ref (ad 7), .ref (ad 12), .ref (ad 22), .ref (ad 28), .ref (ad 34), .int xw, .int xp, .int xr, .int xq, .int xe, .int xh, .int xb])), (ad 34, .inl (kT 0, 9, .inl cn))]) ⟨hx, hb, hml, hown, ht⟩ (c_Bytes_hasByte l D kT ad p1 _ h) (cwV 1 ht (zq_gV zw_249 zw_132 zw_133 zw_134 zw_135) rfl rfl rfl zh_Bytes_hasByte ⟨Nat.le_of_ble_eq_true rfl, Nat.le_of_ble_eq_true rfl⟩) hE hP hD hS hA [4] [0, 1, 2, 3, 5, 6, 7, 8, 9, 10, 11] 12 rfl (by decide +kernel) rfl (by decide +kernel) rfl rfl 0 rfl rfl rfl rfl hl.1 (Nat.le_of_ble_eq_true rfl) rfl zd_Work_load_23 ⟨Nat.zero_le _, Nat.zero_le _⟩ (fun r_2 w1 H locs hw hJ hS => ?_)
    obtain ⟨rfl, h⟩ := hw
    obtain ⟨hP, hD⟩ := hJ (W_Work_load kT ad rn rc rv rm bc wn wf wt wv xw xp xr xq xe xh xb cn) rfl rfl rfl
    refine lv_if_ne (tgt := 31) hx hb zd_Work_load_26 (by decide) (fun c_3 => ?_) (fun c_3 => ?_)
    · have h := zq_if c_3 h
      exact B31 rv rm bc wn wf wt wv xq cn p0 p1 p2 p3 H locs ls h hP hD hS (lv_sub hl [0, 1, 2, 3, 4] rfl)
    · have h := zq_it c_3 h
      refine lv_iconst (v := 3) hx hb zd_Work_load_29 (by decide) ?_
      exact hret 3  _ H locs 30 ls ⟨rv, rm, bc, wn, wf, wt, wv, xq, cn, rfl, h⟩ hP rfl hS zd_Work_load_30
  · have h := zq_if c_1 h
    refine lv_aload_n hx hb zd_Work_load_4 rfl (lv_at hl 0 rfl) ?_
    refine va_get (D := D) (ci := 7) (v := .ref (ad 5)) (C := zR_Work) (T := zF_Work) (N := 14) hx hb ht zi_Work hown hK hP 10 rfl rfl 1 (by decide) (ht _ zw_248) (fun _ h9 => h9) rfl zd_Work_load_5 ?_
    refine lv_lload_n hx hb zd_Work_load_8 rfl (lv_at hl 2 rfl) ?_
    refine zq_c_Vi (rest := []) (adl := (A_Work_load ad)) (wr := [(ad 1, .inr (0, [.ref (ad 2), .ref (ad 3), .ref (ad 4), .int rn])), (ad 2, .inl (kT 1, 24, .inr (.inl rc))), (ad 3, .inl (kT 1, 24, .inr (.inl rv))), (ad 4, .inl (kT 2, 24, .inl rm)), (ad 6, .inl (kT 3, 4096, .inl bc)), (ad 28, .inr (6, [.ref (ad 1), .ref (ad 5), .ref (ad 29), .ref (ad 30), .ref (ad 31), .int wn])), (ad 29, .inl (kT 0, 200, .inl wf)), (ad 30, .inl (kT 0, 200, .inl wt)), (ad 31, .inl (kT 1, 200, .inr (.inl wv))), (ad 32, .inr (7, [.ref (ad 1), .ref (ad 5), .ref (ad 7), .ref (ad 12), .ref (ad 22), .ref (ad 28), .ref (ad 34), .int xw, .int xp, .int xr, .int xq, .int xe, .int xh, .int xb])), (ad 34, .inl (kT 0, 9, .inl cn))]) ⟨hx, hb, hml, hown, ht⟩ (c_Bytes_hasWord l D kT ad p1 _ h) (cwV 1 ht (zq_gV zw_250 zw_251 zw_252 zw_134 zw_253) rfl rfl rfl zh_Bytes_hasWord ⟨Nat.le_of_ble_eq_true rfl, Nat.le_of_ble_eq_true rfl⟩) hE hP hD hS hA [4] [0, 1, 2, 3, 5, 6, 7, 8, 9, 10, 11] 12 rfl (by decide +kernel) rfl (by decide +kernel) rfl rfl 0 rfl rfl rfl rfl hl.1 (Nat.le_of_ble_eq_true rfl) rfl zd_Work_load_9 ⟨Nat.zero_le _, Nat.zero_le _⟩ (fun r_4 w1 H locs hw hJ hS => ?_)
    obtain ⟨rfl, h⟩ := hw
    obtain ⟨hP, hD⟩ := hJ (W_Work_load kT ad rn rc rv rm bc wn wf wt wv xw xp xr xq xe xh xb cn) rfl rfl rfl
    refine lv_if_ne (tgt := 31) hx hb zd_Work_load_12 (by decide) (fun c_5 => ?_) (fun c_5 => ?_)
    · have h := zq_if c_5 h
      exact B31 rv rm bc wn wf wt wv xq cn p0 p1 p2 p3 H locs ls h hP hD hS (lv_sub hl [0, 1, 2, 3, 4] rfl)
    · have h := zq_it c_5 h
      refine lv_goto (tgt := 29) hx hb zd_Work_load_15 (by decide) ?_
      refine lv_iconst (v := 3) hx hb zd_Work_load_29 (by decide) ?_
      exact hret 3  _ H locs 30 ls ⟨rv, rm, bc, wn, wf, wt, wv, xq, cn, rfl, h⟩ hP rfl hS zd_Work_load_30
abbrev W_Work_store (kT : Nat → ClassId) (ad : Nat → Nat) (rn : Int32) (rc : Nat → Int64) (rv : Nat → Int64) (rm : Nat → Int32) (bc : Nat → Int32) (wn : Int32) (wf : Nat → Int32) (wt : Nat → Int32) (wv : Nat → Int64) (xw : Int32) (xp : Int32) (xr : Int32) (xq : Int32) (xe : Int32) (xh : Int32) (xb : Int32) (cn : Nat → Int32) : va_W := [(ad 1, .inr (0, [.ref (ad 2), .ref (ad 3), .ref (ad 4), .int rn])), (ad 2, .inl (kT 1, 24, .inr (.inl rc))), (ad 3, .inl (kT 1, 24, .inr (.inl rv))), (ad 4, .inl (kT 2, 24, .inl rm)), (ad 5, .inr (1, [.ref (ad 6)])), (ad 6, .inl (kT 3, 4096, .inl bc)), (ad 28, .inr (6, [.ref (ad 1), .ref (ad 5), .ref (ad 29), .ref (ad 30), .ref (ad 31), .int wn])), (ad 29, .inl (kT 0, 200, .inl wf)), (ad 30, .inl (kT 0, 200, .inl wt)), (ad 31, .inl (kT 1, 200, .inr (.inl wv))), (ad 32, .inr (7, [.ref (ad 1), .ref (ad 5), .ref (ad 7), .ref (ad 12), .ref (ad 22), .ref (ad 28), .ref (ad 34), .int xw, .int xp, .int xr, .int xq, .int xe, .int xh, .int xb])), (ad 34, .inl (kT 0, 9, .inl cn))]
abbrev A_Work_store (ad : Nat → Nat) : List Nat := [ad 1, ad 2, ad 3, ad 4, ad 5, ad 6, ad 28, ad 29, ad 30, ad 31, ad 32, ad 34]
def wp_Work_store_59 (rn : Int32) (rc : Nat → Int64) (xw : Int32) (xp : Int32) (xr : Int32) (xe : Int32) (xh : Int32) (xb : Int32) (rv : Nat → Int64) (rm : Nat → Int32) (bc : Nat → Int32) (wn : Int32) (wf : Nat → Int32) (wt : Nat → Int32) (wv : Nat → Int64) (xq : Int32) (cn : Nat → Int32) (y2 : Int64) (y4 : Int64) (z0 : Int32) (post : Int32 → (Nat → Int64) → (Nat → Int32) → (Nat → Int32) → Int32 → (Nat → Int32) → (Nat → Int32) → (Nat → Int64) → Int32 → (Nat → Int32) → Prop) : Prop := wp_Work_write rn rc rv rm bc wn wf wt wv xw xp xr xq xe xh xb z0 (zq_j_l2i y2) y4 (fun rv_9 rm_10 bc_11 wn_12 wf_13 wt_14 wv_15 xq_16 => post 0 rv_9 rm_10 bc_11 wn_12 wf_13 wt_14 wv_15 xq_16 cn)
def wp_Work_store_47 (rn : Int32) (rc : Nat → Int64) (xw : Int32) (xp : Int32) (xr : Int32) (xe : Int32) (xh : Int32) (xb : Int32) (rv : Nat → Int64) (rm : Nat → Int32) (bc : Nat → Int32) (wn : Int32) (wf : Nat → Int32) (wt : Nat → Int32) (wv : Nat → Int64) (xq : Int32) (cn : Nat → Int32) (y1 : Int32) (y2 : Int64) (y4 : Int64) (z0 : Int32) (z1 : Int32) (z2 : Int32) (post : Int32 → (Nat → Int64) → (Nat → Int32) → (Nat → Int32) → Int32 → (Nat → Int32) → (Nat → Int32) → (Nat → Int64) → Int32 → (Nat → Int32) → Prop) : Prop := vp_in z2 9 ∧ (if y1 = 0 then wp_Work_store_59 rn rc xw xp xr xe xh xb rv rm bc wn wf wt wv xq (upd cn z2.toNatClampNeg (z1 + z0)) y2 y4 3 post else wp_Work_store_59 rn rc xw xp xr xe xh xb rv rm bc wn wf wt wv xq (upd cn z2.toNatClampNeg (z1 + z0)) y2 y4 4 post)
def wp_Work_store_31 (rn : Int32) (rc : Nat → Int64) (xw : Int32) (xp : Int32) (xr : Int32) (xe : Int32) (xh : Int32) (xb : Int32) (rv : Nat → Int64) (rm : Nat → Int32) (bc : Nat → Int32) (wn : Int32) (wf : Nat → Int32) (wt : Nat → Int32) (wv : Nat → Int64) (xq : Int32) (cn : Nat → Int32) (y1 : Int32) (y2 : Int64) (y4 : Int64) (post : Int32 → (Nat → Int64) → (Nat → Int32) → (Nat → Int32) → Int32 → (Nat → Int32) → (Nat → Int32) → (Nat → Int64) → Int32 → (Nat → Int32) → Prop) : Prop := (if y1 = 0 then wp_Work_store_47 rn rc xw xp xr xe xh xb rv rm bc wn wf wt wv xq cn y1 y2 y4 1 (cn 5) 5 post else wp_Work_store_47 rn rc xw xp xr xe xh xb rv rm bc wn wf wt wv xq cn y1 y2 y4 2 (cn 5) 5 post)
def wp_Work_store (rn : Int32) (rc : Nat → Int64) (rv : Nat → Int64) (rm : Nat → Int32) (bc : Nat → Int32) (wn : Int32) (wf : Nat → Int32) (wt : Nat → Int32) (wv : Nat → Int64) (xw : Int32) (xp : Int32) (xr : Int32) (xq : Int32) (xe : Int32) (xh : Int32) (xb : Int32) (cn : Nat → Int32) (p0 : Int32) (p1 : Int64) (p2 : Int64) (post : Int32 → (Nat → Int64) → (Nat → Int32) → (Nat → Int32) → Int32 → (Nat → Int32) → (Nat → Int32) → (Nat → Int64) → Int32 → (Nat → Int32) → Prop) : Prop := (if p0 = 0 then wp_Bytes_hasByte p1 (fun r_2 => (if r_2 = 0 then post 3 rv rm bc wn wf wt wv xq cn else wp_Work_store_31 rn rc xw xp xr xe xh xb rv rm bc wn wf wt wv xq cn p0 p1 p2 post)) else wp_Bytes_hasWord p1 (fun r_4 => (if r_4 = 0 then post 3 rv rm bc wn wf wt wv xq cn else wp_Work_store_31 rn rc xw xp xr xe xh xb rv rm bc wn wf wt wv xq cn p0 p1 p2 post)))
set_option maxHeartbeats 4000000 in
set_option maxRecDepth 100000 in
theorem c_Work_store (l : Launch) (D : va_G) (kT : Nat → ClassId) (ad : Nat → Nat) (rn : Int32) (rc : Nat → Int64) (rv : Nat → Int64) (rm : Nat → Int32) (bc : Nat → Int32) (wn : Int32) (wf : Nat → Int32) (wt : Nat → Int32) (wv : Nat → Int64) (xw : Int32) (xp : Int32) (xr : Int32) (xq : Int32) (xe : Int32) (xh : Int32) (xb : Int32) (cn : Nat → Int32) (p0 : Int32) (p1 : Int64) (p2 : Int64) (post : Int32 → (Nat → Int64) → (Nat → Int32) → (Nat → Int32) → Int32 → (Nat → Int32) → (Nat → Int32) → (Nat → Int64) → Int32 → (Nat → Int32) → Prop) (h : wp_Work_store rn rc rv rm bc wn wf wt wv xw xp xr xq xe xh xb cn p0 p1 p2 post) : zq_Mi l zy_Work_store zs_Work_store ({ frames := 3, cells := 0, slots := 0, locals := 72 }) D kT [.ref (ad 32), .int p0, .long p1, .long p2] (W_Work_store kT ad rn rc rv rm bc wn wf wt wv xw xp xr xq xe xh xb cn) (fun r w' => ∃ (rv' : Nat → Int64) (rm' : Nat → Int32) (bc' : Nat → Int32) (wn' : Int32) (wf' : Nat → Int32) (wt' : Nat → Int32) (wv' : Nat → Int64) (xq' : Int32) (cn' : Nat → Int32), w' = (W_Work_store kT ad rn rc rv' rm' bc' wn' wf' wt' wv' xw xp xr xq' xe xh xb cn') ∧ post r rv' rm' bc' wn' wf' wt' wv' xq' cn') := by
  refine zq_Mi_of (adl := (A_Work_store ad)) (cc := zb_Work_store) (maxL := 6) (own := zR_Work) rfl (by decide) rfl rfl (Nat.le_of_ble_eq_true rfl) ?_
  intro p e s m AV below meth c A QQ H locs ls hx hb hml hown ht hE hA hret hP hD hS hl
  have hK := hE.1
  have hl : lv_has ls 6 [(0, .ref (ad 32)), (1, .int p0), (2, .long p1), (4, .long p2)] := hl
  have B59 : ∀  (rv : Nat → Int64) (rm : Nat → Int32) (bc : Nat → Int32) (wn : Int32) (wf : Nat → Int32) (wt : Nat → Int32) (wv : Nat → Int64) (xq : Int32) (cn : Nat → Int32) (y2 : Int64) (y4 : Int64) (z0 : Int32) (H : Heap) (locs : List Loc) (ls : Array Slot), wp_Work_store_59 rn rc xw xp xr xe xh xb rv rm bc wn wf wt wv xq cn y2 y4 z0 post → va_P D vwCl (W_Work_store kT ad rn rc rv rm bc wn wf wt wv xw xp xr xq xe xh xb cn) H → va_D A (W_Work_store kT ad rn rc rv rm bc wn wf wt wv xw xp xr xq xe xh xb cn) → va_S A s.heap H locs → lv_has ls 6 [(2, .long y2), (4, .long y4)] → W p l e ({ frames := 3, cells := 0, slots := 0, locals := 72 }) s m AV below meth c H locs 0 0 QQ (F0 m 59 ls [.int z0, .ref (ad 32)]) := by
    intro rv rm bc wn wf wt wv xq cn y2 y4 z0 H locs ls h hP hD hS hl
    refine lv_lload_n hx hb zd_Work_store_59 rfl (lv_at hl 0 rfl) ?_
    refine lv_l2i (v := (zq_j_l2i y2)) hx hb zd_Work_store_60 rfl ?_
    refine lv_lload hx hb zd_Work_store_61 (lv_at hl 1 rfl) ?_
    refine zq_c_Vv (rest := []) (adl := (A_Work_store ad)) (wr := [(ad 34, .inl (kT 0, 9, .inl cn))]) ⟨hx, hb, hml, hown, ht⟩ (c_Work_write l D kT ad rn rc rv rm bc wn wf wt wv xw xp xr xq xe xh xb z0 (zq_j_l2i y2) y4 _ h) (cwV 3 ht (zq_gV zw_244 zw_245 zw_246 zw_233 zw_247) rfl rfl rfl zh_Work_write ⟨Nat.le_of_ble_eq_true rfl, Nat.le_of_ble_eq_true rfl⟩) hE hP hD hS hA [0, 1, 2, 3, 4, 5, 6, 7, 8, 9, 10] [11] 12 rfl (by decide +kernel) rfl (by decide +kernel) rfl rfl 10 rfl rfl rfl rfl hl.1 (Nat.le_of_ble_eq_true rfl) rfl zd_Work_store_63 ⟨Nat.zero_le _, Nat.zero_le _⟩ (fun w1 H locs hw hJ hS => ?_)
    obtain ⟨rv_9, rm_10, bc_11, wn_12, wf_13, wt_14, wv_15, xq_16, rfl, h⟩ := hw
    obtain ⟨hP, hD⟩ := hJ (W_Work_store kT ad rn rc rv_9 rm_10 bc_11 wn_12 wf_13 wt_14 wv_15 xw xp xr xq_16 xe xh xb cn) rfl rfl rfl
    refine lv_iconst (v := 0) hx hb zd_Work_store_66 (by decide) ?_
    exact hret 0  _ H locs 67 ls ⟨rv_9, rm_10, bc_11, wn_12, wf_13, wt_14, wv_15, xq_16, cn, rfl, h⟩ hP rfl hS zd_Work_store_67
  have B47 : ∀  (rv : Nat → Int64) (rm : Nat → Int32) (bc : Nat → Int32) (wn : Int32) (wf : Nat → Int32) (wt : Nat → Int32) (wv : Nat → Int64) (xq : Int32) (cn : Nat → Int32) (y1 : Int32) (y2 : Int64) (y4 : Int64) (z0 : Int32) (z1 : Int32) (z2 : Int32) (H : Heap) (locs : List Loc) (ls : Array Slot), wp_Work_store_47 rn rc xw xp xr xe xh xb rv rm bc wn wf wt wv xq cn y1 y2 y4 z0 z1 z2 post → va_P D vwCl (W_Work_store kT ad rn rc rv rm bc wn wf wt wv xw xp xr xq xe xh xb cn) H → va_D A (W_Work_store kT ad rn rc rv rm bc wn wf wt wv xw xp xr xq xe xh xb cn) → va_S A s.heap H locs → lv_has ls 6 [(0, .ref (ad 32)), (1, .int y1), (2, .long y2), (4, .long y4)] → W p l e ({ frames := 3, cells := 0, slots := 0, locals := 72 }) s m AV below meth c H locs 0 0 QQ (F0 m 47 ls [.int z0, .int z1, .int z2, .ref (ad 34)]) := by
    intro rv rm bc wn wf wt wv xq cn y1 y2 y4 z0 z1 z2 H locs ls h hP hD hS hl
    refine lv_iadd hx hb zd_Work_store_47 ?_
    obtain ⟨hi_7, h⟩ := h
    refine zq_a_iast (D := D) hx hb hK hP hD hS 11 0 rfl rfl hi_7 rfl zd_Work_store_48 (fun H locs hP hD hS => ?_)
    have hP : va_P D vwCl (W_Work_store kT ad rn rc rv rm bc wn wf wt wv xw xp xr xq xe xh xb (upd cn z2.toNatClampNeg (z1 + z0))) H := hP
    have hD : va_D A (W_Work_store kT ad rn rc rv rm bc wn wf wt wv xw xp xr xq xe xh xb (upd cn z2.toNatClampNeg (z1 + z0))) := hD
    refine lv_aload_n hx hb zd_Work_store_49 rfl (lv_at hl 0 rfl) ?_
    refine lv_iload_n hx hb zd_Work_store_50 rfl (lv_at hl 1 rfl) ?_
    refine lv_if_eq (tgt := 58) hx hb zd_Work_store_51 (by decide) (fun c_8 => ?_) (fun c_8 => ?_)
    · have h := zq_it c_8 h
      refine lv_iconst (v := 3) hx hb zd_Work_store_58 (by decide) ?_
      exact B59 rv rm bc wn wf wt wv xq (upd cn z2.toNatClampNeg (z1 + z0)) y2 y4 3 H locs ls h hP hD hS (lv_sub hl [2, 3] rfl)
    · have h := zq_if c_8 h
      refine lv_iconst (v := 4) hx hb zd_Work_store_54 (by decide) ?_
      refine lv_goto (tgt := 59) hx hb zd_Work_store_55 (by decide) ?_
      exact B59 rv rm bc wn wf wt wv xq (upd cn z2.toNatClampNeg (z1 + z0)) y2 y4 4 H locs ls h hP hD hS (lv_sub hl [2, 3] rfl)
  have B31 : ∀  (rv : Nat → Int64) (rm : Nat → Int32) (bc : Nat → Int32) (wn : Int32) (wf : Nat → Int32) (wt : Nat → Int32) (wv : Nat → Int64) (xq : Int32) (cn : Nat → Int32) (y1 : Int32) (y2 : Int64) (y4 : Int64) (H : Heap) (locs : List Loc) (ls : Array Slot), wp_Work_store_31 rn rc xw xp xr xe xh xb rv rm bc wn wf wt wv xq cn y1 y2 y4 post → va_P D vwCl (W_Work_store kT ad rn rc rv rm bc wn wf wt wv xw xp xr xq xe xh xb cn) H → va_D A (W_Work_store kT ad rn rc rv rm bc wn wf wt wv xw xp xr xq xe xh xb cn) → va_S A s.heap H locs → lv_has ls 6 [(0, .ref (ad 32)), (1, .int y1), (2, .long y2), (4, .long y4)] → W p l e ({ frames := 3, cells := 0, slots := 0, locals := 72 }) s m AV below meth c H locs 0 0 QQ (F0 m 31 ls []) := by
    intro rv rm bc wn wf wt wv xq cn y1 y2 y4 H locs ls h hP hD hS hl
    refine lv_aload_n hx hb zd_Work_store_31 rfl (lv_at hl 0 rfl) ?_
    refine va_get (D := D) (ci := 7) (v := .ref (ad 34)) (C := zR_Work) (T := zF_Work) (N := 14) hx hb ht zi_Work hown hK hP 10 rfl rfl 6 (by decide) (ht _ zw_254) (fun _ h9 => h9) rfl zd_Work_store_32 ?_
    refine lv_iconst (v := 5) hx hb zd_Work_store_35 (by decide) ?_
    refine lv_dup2_11 hx hb zd_Work_store_36 rfl rfl ?_
    refine zq_a_iald (D := D) (j := 5) hx hb hK hP 11 0 rfl rfl (zq_in (by decide)) (by decide) zd_Work_store_37 ?_
    refine lv_iload_n hx hb zd_Work_store_38 rfl (lv_at hl 1 rfl) ?_
    refine lv_if_eq (tgt := 46) hx hb zd_Work_store_39 (by decide) (fun c_6 => ?_) (fun c_6 => ?_)
    · have h := zq_it c_6 h
      refine lv_iconst (v := 1) hx hb zd_Work_store_46 (by decide) ?_
      exact B47 rv rm bc wn wf wt wv xq cn y1 y2 y4 1 (cn 5) 5 H locs ls h hP hD hS (lv_sub hl [0, 1, 2, 3] rfl)
    · have h := zq_if c_6 h
      refine lv_iconst (v := 2) hx hb zd_Work_store_42 (by decide) ?_
      refine lv_goto (tgt := 47) hx hb zd_Work_store_43 (by decide) ?_
      exact B47 rv rm bc wn wf wt wv xq cn y1 y2 y4 2 (cn 5) 5 H locs ls h hP hD hS (lv_sub hl [0, 1, 2, 3] rfl)
  refine lv_iload_n hx hb zd_Work_store_0 rfl (lv_at hl 1 rfl) ?_
  refine lv_if_eq (tgt := 18) hx hb zd_Work_store_1 (by decide) (fun c_1 => ?_) (fun c_1 => ?_)
  · have h := zq_it c_1 h
    refine lv_aload_n hx hb zd_Work_store_18 rfl (lv_at hl 0 rfl) ?_
    refine va_get (D := D) (ci := 7) (v := .ref (ad 5)) (C := zR_Work) (T := zF_Work) (N := 14) hx hb ht zi_Work hown hK hP 10 rfl rfl 1 (by decide) (ht _ zw_248) (fun _ h9 => h9) rfl zd_Work_store_19 ?_
    refine lv_lload_n hx hb zd_Work_store_22 rfl (lv_at hl 2 rfl) ?_
    refine zq_c_Vi (rest := []) (adl := (A_Work_store ad)) (wr := [(ad 1, .inr (0, [.ref (ad 2), .ref (ad 3), .ref (ad 4), .int rn])), (ad 2, .inl (kT 1, 24, .inr (.inl rc))), (ad 3, .inl (kT 1, 24, .inr (.inl rv))), (ad 4, .inl (kT 2, 24, .inl rm)), (ad 6, .inl (kT 3, 4096, .inl bc)), (ad 28, .inr (6, [.ref (ad 1), .ref (ad 5), .ref (ad 29), .ref (ad 30), .ref (ad 31), .int wn])), (ad 29, .inl (kT 0, 200, .inl wf)), (ad 30, .inl (kT 0, 200, .inl wt)), (ad 31, .inl (kT 1, 200, .inr (.inl wv))), (ad 32, .inr (7, [.ref (ad 1), .ref (ad 5), .ref (ad 7), .ref (ad 12), .ref (ad 22), .ref (ad 28), .ref (ad 34), .int xw, .int xp, .int xr, .int xq, .int xe, .int xh, .int xb])), (ad 34, .inl (kT 0, 9, .inl cn))]) ⟨hx, hb, hml, hown, ht⟩ (c_Bytes_hasByte l D kT ad p1 _ h) (cwV 1 ht (zq_gV zw_249 zw_132 zw_133 zw_134 zw_135) rfl rfl rfl zh_Bytes_hasByte ⟨Nat.le_of_ble_eq_true rfl, Nat.le_of_ble_eq_true rfl⟩) hE hP hD hS hA [4] [0, 1, 2, 3, 5, 6, 7, 8, 9, 10, 11] 12 rfl (by decide +kernel) rfl (by decide +kernel) rfl rfl 0 rfl rfl rfl rfl hl.1 (Nat.le_of_ble_eq_true rfl) rfl zd_Work_store_23 ⟨Nat.zero_le _, Nat.zero_le _⟩ (fun r_2 w1 H locs hw hJ hS => ?_)
    obtain ⟨rfl, h⟩ := hw
    obtain ⟨hP, hD⟩ := hJ (W_Work_store kT ad rn rc rv rm bc wn wf wt wv xw xp xr xq xe xh xb cn) rfl rfl rfl
    refine lv_if_ne (tgt := 31) hx hb zd_Work_store_26 (by decide) (fun c_3 => ?_) (fun c_3 => ?_)
    · have h := zq_if c_3 h
      exact B31 rv rm bc wn wf wt wv xq cn p0 p1 p2 H locs ls h hP hD hS (lv_sub hl [0, 1, 2, 3] rfl)
    · have h := zq_it c_3 h
      refine lv_iconst (v := 3) hx hb zd_Work_store_29 (by decide) ?_
      exact hret 3  _ H locs 30 ls ⟨rv, rm, bc, wn, wf, wt, wv, xq, cn, rfl, h⟩ hP rfl hS zd_Work_store_30
  · have h := zq_if c_1 h
    refine lv_aload_n hx hb zd_Work_store_4 rfl (lv_at hl 0 rfl) ?_
    refine va_get (D := D) (ci := 7) (v := .ref (ad 5)) (C := zR_Work) (T := zF_Work) (N := 14) hx hb ht zi_Work hown hK hP 10 rfl rfl 1 (by decide) (ht _ zw_248) (fun _ h9 => h9) rfl zd_Work_store_5 ?_
    refine lv_lload_n hx hb zd_Work_store_8 rfl (lv_at hl 2 rfl) ?_
    refine zq_c_Vi (rest := []) (adl := (A_Work_store ad)) (wr := [(ad 1, .inr (0, [.ref (ad 2), .ref (ad 3), .ref (ad 4), .int rn])), (ad 2, .inl (kT 1, 24, .inr (.inl rc))), (ad 3, .inl (kT 1, 24, .inr (.inl rv))), (ad 4, .inl (kT 2, 24, .inl rm)), (ad 6, .inl (kT 3, 4096, .inl bc)), (ad 28, .inr (6, [.ref (ad 1), .ref (ad 5), .ref (ad 29), .ref (ad 30), .ref (ad 31), .int wn])), (ad 29, .inl (kT 0, 200, .inl wf)), (ad 30, .inl (kT 0, 200, .inl wt)), (ad 31, .inl (kT 1, 200, .inr (.inl wv))), (ad 32, .inr (7, [.ref (ad 1), .ref (ad 5), .ref (ad 7), .ref (ad 12), .ref (ad 22), .ref (ad 28), .ref (ad 34), .int xw, .int xp, .int xr, .int xq, .int xe, .int xh, .int xb])), (ad 34, .inl (kT 0, 9, .inl cn))]) ⟨hx, hb, hml, hown, ht⟩ (c_Bytes_hasWord l D kT ad p1 _ h) (cwV 1 ht (zq_gV zw_250 zw_251 zw_252 zw_134 zw_253) rfl rfl rfl zh_Bytes_hasWord ⟨Nat.le_of_ble_eq_true rfl, Nat.le_of_ble_eq_true rfl⟩) hE hP hD hS hA [4] [0, 1, 2, 3, 5, 6, 7, 8, 9, 10, 11] 12 rfl (by decide +kernel) rfl (by decide +kernel) rfl rfl 0 rfl rfl rfl rfl hl.1 (Nat.le_of_ble_eq_true rfl) rfl zd_Work_store_9 ⟨Nat.zero_le _, Nat.zero_le _⟩ (fun r_4 w1 H locs hw hJ hS => ?_)
    obtain ⟨rfl, h⟩ := hw
    obtain ⟨hP, hD⟩ := hJ (W_Work_store kT ad rn rc rv rm bc wn wf wt wv xw xp xr xq xe xh xb cn) rfl rfl rfl
    refine lv_if_ne (tgt := 31) hx hb zd_Work_store_12 (by decide) (fun c_5 => ?_) (fun c_5 => ?_)
    · have h := zq_if c_5 h
      exact B31 rv rm bc wn wf wt wv xq cn p0 p1 p2 H locs ls h hP hD hS (lv_sub hl [0, 1, 2, 3] rfl)
    · have h := zq_it c_5 h
      refine lv_goto (tgt := 29) hx hb zd_Work_store_15 (by decide) ?_
      refine lv_iconst (v := 3) hx hb zd_Work_store_29 (by decide) ?_
      exact hret 3  _ H locs 30 ls ⟨rv, rm, bc, wn, wf, wt, wv, xq, cn, rfl, h⟩ hP rfl hS zd_Work_store_30
abbrev W_Work_goBack (kT : Nat → ClassId) (ad : Nat → Nat) (rn : Int32) (rc : Nat → Int64) (rv : Nat → Int64) (rm : Nat → Int32) (bc : Nat → Int32) (kn : Int32) (kv : Int32) (kp : Nat → Int32) (kl : Nat → Int32) (wn : Int32) (wf : Nat → Int32) (wt : Nat → Int32) (wv : Nat → Int64) (xw : Int32) (xp : Int32) (xr : Int32) (xq : Int32) (xe : Int32) (xh : Int32) (xb : Int32) : va_W := [(ad 1, .inr (0, [.ref (ad 2), .ref (ad 3), .ref (ad 4), .int rn])), (ad 2, .inl (kT 1, 24, .inr (.inl rc))), (ad 3, .inl (kT 1, 24, .inr (.inl rv))), (ad 4, .inl (kT 2, 24, .inl rm)), (ad 5, .inr (1, [.ref (ad 6)])), (ad 6, .inl (kT 3, 4096, .inl bc)), (ad 22, .inr (4, [.ref (ad 23), .ref (ad 24), .int kn, .int kv])), (ad 23, .inl (kT 0, 8, .inl kp)), (ad 24, .inl (kT 0, 8, .inl kl)), (ad 28, .inr (6, [.ref (ad 1), .ref (ad 5), .ref (ad 29), .ref (ad 30), .ref (ad 31), .int wn])), (ad 29, .inl (kT 0, 200, .inl wf)), (ad 30, .inl (kT 0, 200, .inl wt)), (ad 31, .inl (kT 1, 200, .inr (.inl wv))), (ad 32, .inr (7, [.ref (ad 1), .ref (ad 5), .ref (ad 7), .ref (ad 12), .ref (ad 22), .ref (ad 28), .ref (ad 34), .int xw, .int xp, .int xr, .int xq, .int xe, .int xh, .int xb]))]
abbrev A_Work_goBack (ad : Nat → Nat) : List Nat := [ad 1, ad 2, ad 3, ad 4, ad 5, ad 6, ad 22, ad 23, ad 24, ad 28, ad 29, ad 30, ad 31, ad 32]
def wp_Work_goBack (rn : Int32) (rc : Nat → Int64) (rv : Nat → Int64) (rm : Nat → Int32) (bc : Nat → Int32) (kn : Int32) (kv : Int32) (kp : Nat → Int32) (kl : Nat → Int32) (wn : Int32) (wf : Nat → Int32) (wt : Nat → Int32) (wv : Nat → Int64) (xw : Int32) (xp : Int32) (xr : Int32) (xq : Int32) (xe : Int32) (xh : Int32) (xb : Int32)  (post : Int32 → (Nat → Int64) → (Nat → Int32) → (Nat → Int32) → Int32 → Int32 → Int32 → (Nat → Int32) → (Nat → Int32) → (Nat → Int64) → Int32 → Int32 → Prop) : Prop := wp_Kept_goBack kn kv kp kl (fun r_3 kn_1 kv_2 => (if r_3 = (-1) then post 6 rv rm bc kn_1 kv_2 wn wf wt wv xq xb else (if xp = 0 then wp_Work_write rn rc rv rm bc wn wf wt wv xw xp xr xq xe xh xb 0 0 (zq_j_i2l r_3) (fun rv_6 rm_7 bc_8 wn_9 wf_10 wt_11 wv_12 xq_13 => post 0 rv_6 rm_7 bc_8 kn_1 kv_2 wn_9 wf_10 wt_11 wv_12 xq_13 xb) else post 0 rv rm bc kn_1 kv_2 wn wf wt wv 1 r_3)))
set_option maxHeartbeats 4000000 in
set_option maxRecDepth 100000 in
theorem c_Work_goBack (l : Launch) (D : va_G) (kT : Nat → ClassId) (ad : Nat → Nat) (rn : Int32) (rc : Nat → Int64) (rv : Nat → Int64) (rm : Nat → Int32) (bc : Nat → Int32) (kn : Int32) (kv : Int32) (kp : Nat → Int32) (kl : Nat → Int32) (wn : Int32) (wf : Nat → Int32) (wt : Nat → Int32) (wv : Nat → Int64) (xw : Int32) (xp : Int32) (xr : Int32) (xq : Int32) (xe : Int32) (xh : Int32) (xb : Int32)  (post : Int32 → (Nat → Int64) → (Nat → Int32) → (Nat → Int32) → Int32 → Int32 → Int32 → (Nat → Int32) → (Nat → Int32) → (Nat → Int64) → Int32 → Int32 → Prop) (h : wp_Work_goBack rn rc rv rm bc kn kv kp kl wn wf wt wv xw xp xr xq xe xh xb  post) : zq_Mi l zy_Work_goBack zs_Work_goBack ({ frames := 3, cells := 0, slots := 0, locals := 72 }) D kT [.ref (ad 32)] (W_Work_goBack kT ad rn rc rv rm bc kn kv kp kl wn wf wt wv xw xp xr xq xe xh xb) (fun r w' => ∃ (rv' : Nat → Int64) (rm' : Nat → Int32) (bc' : Nat → Int32) (kn' : Int32) (kv' : Int32) (wn' : Int32) (wf' : Nat → Int32) (wt' : Nat → Int32) (wv' : Nat → Int64) (xq' : Int32) (xb' : Int32), w' = (W_Work_goBack kT ad rn rc rv' rm' bc' kn' kv' kp kl wn' wf' wt' wv' xw xp xr xq' xe xh xb') ∧ post r rv' rm' bc' kn' kv' wn' wf' wt' wv' xq' xb') := by
  refine zq_Mi_of (adl := (A_Work_goBack ad)) (cc := zb_Work_goBack) (maxL := 2) (own := zR_Work) rfl (by decide) rfl rfl (Nat.le_of_ble_eq_true rfl) ?_
  intro p e s m AV below meth c A QQ H locs ls hx hb hml hown ht hE hA hret hP hD hS hl
  have hK := hE.1
  have hl : lv_has ls 2 [(0, .ref (ad 32))] := hl
  refine lv_aload_n hx hb zd_Work_goBack_0 rfl (lv_at hl 0 rfl) ?_
  refine va_get (D := D) (ci := 7) (v := .ref (ad 22)) (C := zR_Work) (T := zF_Work) (N := 14) hx hb ht zi_Work hown hK hP 13 rfl rfl 4 (by decide) (ht _ zw_257) (fun _ h9 => h9) rfl zd_Work_goBack_1 ?_
  refine zq_c_Vi (rest := []) (adl := (A_Work_goBack ad)) (wr := [(ad 1, .inr (0, [.ref (ad 2), .ref (ad 3), .ref (ad 4), .int rn])), (ad 2, .inl (kT 1, 24, .inr (.inl rc))), (ad 3, .inl (kT 1, 24, .inr (.inl rv))), (ad 4, .inl (kT 2, 24, .inl rm)), (ad 5, .inr (1, [.ref (ad 6)])), (ad 6, .inl (kT 3, 4096, .inl bc)), (ad 28, .inr (6, [.ref (ad 1), .ref (ad 5), .ref (ad 29), .ref (ad 30), .ref (ad 31), .int wn])), (ad 29, .inl (kT 0, 200, .inl wf)), (ad 30, .inl (kT 0, 200, .inl wt)), (ad 31, .inl (kT 1, 200, .inr (.inl wv))), (ad 32, .inr (7, [.ref (ad 1), .ref (ad 5), .ref (ad 7), .ref (ad 12), .ref (ad 22), .ref (ad 28), .ref (ad 34), .int xw, .int xp, .int xr, .int xq, .int xe, .int xh, .int xb]))]) ⟨hx, hb, hml, hown, ht⟩ (c_Kept_goBack l D kT ad kn kv kp kl _ h) (cwV 0 ht (zq_gV zw_258 zw_259 zw_260 zw_261 zw_262) rfl rfl rfl zh_Kept_goBack ⟨Nat.le_of_ble_eq_true rfl, Nat.le_of_ble_eq_true rfl⟩) hE hP hD hS hA [6, 7, 8] [0, 1, 2, 3, 4, 5, 9, 10, 11, 12, 13] 14 rfl (by decide +kernel) rfl (by decide +kernel) rfl rfl 0 rfl rfl rfl rfl hl.1 (Nat.le_of_ble_eq_true rfl) rfl zd_Work_goBack_4 ⟨Nat.zero_le _, Nat.zero_le _⟩ (fun r_3 w1 H locs hw hJ hS => ?_)
  obtain ⟨kn_1, kv_2, rfl, h⟩ := hw
  obtain ⟨hP, hD⟩ := hJ (W_Work_goBack kT ad rn rc rv rm bc kn_1 kv_2 kp kl wn wf wt wv xw xp xr xq xe xh xb) rfl rfl rfl
  refine lv_istore_n (lv' := [(1, .int r_3), (0, .ref (ad 32))]) hx hb zd_Work_goBack_7 rfl hl (by decide) rfl (fun ls hl => ?_)
  refine lv_iload_n hx hb zd_Work_goBack_8 rfl (lv_at hl 0 rfl) ?_
  refine lv_iconst (v := (-1)) hx hb zd_Work_goBack_9 (by decide) ?_
  refine lv_icmp_ne (tgt := 16) hx hb zd_Work_goBack_10 (by decide) (fun c_4 => ?_) (fun c_4 => ?_)
  · have h := zq_if c_4 h
    refine lv_aload_n hx hb zd_Work_goBack_16 rfl (lv_at hl 1 rfl) ?_
    refine va_get (D := D) (ci := 7) (v := .int xp) (C := zR_Work) (T := zF_Work) (N := 14) hx hb ht zi_Work hown hK hP 13 rfl rfl 8 (by decide) (ht _ zw_219) (fun _ h9 => h9) rfl zd_Work_goBack_17 ?_
    refine lv_if_eq (tgt := 36) hx hb zd_Work_goBack_20 (by decide) (fun c_5 => ?_) (fun c_5 => ?_)
    · have h := zq_it c_5 h
      refine lv_aload_n hx hb zd_Work_goBack_36 rfl (lv_at hl 1 rfl) ?_
      refine lv_iconst (v := 0) hx hb zd_Work_goBack_37 (by decide) ?_
      refine lv_iconst (v := 0) hx hb zd_Work_goBack_38 (by decide) ?_
      refine lv_iload_n hx hb zd_Work_goBack_39 rfl (lv_at hl 0 rfl) ?_
      refine lv_i2l (v := (zq_j_i2l r_3)) hx hb zd_Work_goBack_40 rfl ?_
      refine zq_c_Vv (rest := []) (adl := (A_Work_goBack ad)) (wr := [(ad 22, .inr (4, [.ref (ad 23), .ref (ad 24), .int kn_1, .int kv_2])), (ad 23, .inl (kT 0, 8, .inl kp)), (ad 24, .inl (kT 0, 8, .inl kl))]) ⟨hx, hb, hml, hown, ht⟩ (c_Work_write l D kT ad rn rc rv rm bc wn wf wt wv xw xp xr xq xe xh xb 0 0 (zq_j_i2l r_3) _ h) (cwV 3 ht (zq_gV zw_244 zw_245 zw_246 zw_233 zw_247) rfl rfl rfl zh_Work_write ⟨Nat.le_of_ble_eq_true rfl, Nat.le_of_ble_eq_true rfl⟩) hE hP hD hS hA [0, 1, 2, 3, 4, 5, 9, 10, 11, 12, 13] [6, 7, 8] 14 rfl (by decide +kernel) rfl (by decide +kernel) rfl rfl 10 rfl rfl rfl rfl hl.1 (Nat.le_of_ble_eq_true rfl) rfl zd_Work_goBack_41 ⟨Nat.zero_le _, Nat.zero_le _⟩ (fun w1 H locs hw hJ hS => ?_)
      obtain ⟨rv_6, rm_7, bc_8, wn_9, wf_10, wt_11, wv_12, xq_13, rfl, h⟩ := hw
      obtain ⟨hP, hD⟩ := hJ (W_Work_goBack kT ad rn rc rv_6 rm_7 bc_8 kn_1 kv_2 kp kl wn_9 wf_10 wt_11 wv_12 xw xp xr xq_13 xe xh xb) rfl rfl rfl
      refine lv_iconst (v := 0) hx hb zd_Work_goBack_44 (by decide) ?_
      exact hret 0  _ H locs 45 ls ⟨rv_6, rm_7, bc_8, kn_1, kv_2, wn_9, wf_10, wt_11, wv_12, xq_13, xb, rfl, h⟩ hP rfl hS zd_Work_goBack_45
    · have h := zq_if c_5 h
      refine lv_aload_n hx hb zd_Work_goBack_23 rfl (lv_at hl 1 rfl) ?_
      refine lv_iload_n hx hb zd_Work_goBack_24 rfl (lv_at hl 0 rfl) ?_
      refine va_put (D := D) (ci := 7) (v := .int r_3) (ty := .int) (C := zR_Work) (T := zF_Work) (N := 14) hx hb ht zi_Work zt_Work zt_Work_ok zn_Work hown hK hP hD hS 13 rfl rfl 13 (by decide) (ht _ zw_224) (fun _ h9 => h9) rfl (by decide +kernel) rfl rfl (Nat.le_of_ble_eq_true rfl) zd_Work_goBack_25 (fun H locs hP hD hS => ?_)
      have hP : va_P D vwCl (W_Work_goBack kT ad rn rc rv rm bc kn_1 kv_2 kp kl wn wf wt wv xw xp xr xq xe xh r_3) H := hP
      have hD : va_D A (W_Work_goBack kT ad rn rc rv rm bc kn_1 kv_2 kp kl wn wf wt wv xw xp xr xq xe xh r_3) := hD
      refine lv_aload_n hx hb zd_Work_goBack_28 rfl (lv_at hl 1 rfl) ?_
      refine lv_iconst (v := 1) hx hb zd_Work_goBack_29 (by decide) ?_
      refine va_put (D := D) (ci := 7) (v := .int 1) (ty := .boolean) (C := zR_Work) (T := zF_Work) (N := 14) hx hb ht zi_Work zt_Work zt_Work_ok zn_Work hown hK hP hD hS 13 rfl rfl 10 (by decide) (ht _ zw_221) (fun _ h9 => h9) rfl (by decide +kernel) rfl rfl (Nat.le_of_ble_eq_true rfl) zd_Work_goBack_30 (fun H locs hP hD hS => ?_)
      have hP : va_P D vwCl (W_Work_goBack kT ad rn rc rv rm bc kn_1 kv_2 kp kl wn wf wt wv xw xp xr 1 xe xh r_3) H := hP
      have hD : va_D A (W_Work_goBack kT ad rn rc rv rm bc kn_1 kv_2 kp kl wn wf wt wv xw xp xr 1 xe xh r_3) := hD
      refine lv_goto (tgt := 44) hx hb zd_Work_goBack_33 (by decide) ?_
      refine lv_iconst (v := 0) hx hb zd_Work_goBack_44 (by decide) ?_
      exact hret 0  _ H locs 45 ls ⟨rv, rm, bc, kn_1, kv_2, wn, wf, wt, wv, 1, r_3, rfl, h⟩ hP rfl hS zd_Work_goBack_45
  · have h := zq_it c_4 h
    refine lv_bipush (v := 6) hx hb zd_Work_goBack_13 (by decide) ?_
    exact hret 6  _ H locs 15 ls ⟨rv, rm, bc, kn_1, kv_2, wn, wf, wt, wv, xq, xb, rfl, h⟩ hP rfl hS zd_Work_goBack_15
def wp_Work_result  (p0 : Int32) (p1 : Int64) (p2 : Int64) (post : Int64 → Prop) : Prop := (if p0 = 1 then post (p1 + p2)  else (if p0 = 2 then post (p1 - p2)  else (if p0 = 3 then post (p1 * p2)  else (if p0 = 4 then post p1  else (if p0 = 5 then post p1  else (if p0 = 6 then post (p1 &&& p2)  else (if p0 = 7 then post (p1 ||| p2)  else (if p0 = 8 then post (p1 ^^^ p2)  else (if p0 = 9 then (if p2 < 0 then post 0  else (if 63 < p2 then post 0  else post (zq_j_lshl p1 (zq_j_l2i p2)) )) else (if p0 = 10 then (if p2 < 0 then post 0  else (if 63 < p2 then post 0  else post (zq_j_lushr p1 (zq_j_l2i p2)) )) else (if p0 = 11 then wp_Work_isBelow p1 p2 (fun r_5 => (if r_5 = 0 then post 0  else post 1 )) else (if p0 = 12 then (if p1 = p2 then post 1  else post 0 ) else post p1 ))))))))))))
set_option maxHeartbeats 4000000 in
set_option maxRecDepth 100000 in
theorem c_Work_result (l : Launch) (D : va_G) (kT : Nat → ClassId) (ad : Nat → Nat)  (p0 : Int32) (p1 : Int64) (p2 : Int64) (post : Int64 → Prop) (h : wp_Work_result  p0 p1 p2 post) : zq_Ml l zy_Work_result zs_Work_result ({ frames := 1, cells := 0, slots := 0, locals := 23 }) D kT [.int p0, .long p1, .long p2] [] (fun r w' => w' = [] ∧ post r ) := by
  refine zq_Ml_of (adl := []) (cc := zb_Work_result) (maxL := 5) (own := zR_Work) rfl (by decide) rfl rfl (Nat.le_of_ble_eq_true rfl) ?_
  intro p e s m AV below meth c A QQ H locs ls hx hb hml hown ht hE hA hret hP hD hS hl
  have hK := hE.1
  have hl : lv_has ls 5 [(0, .int p0), (1, .long p1), (3, .long p2)] := hl
  refine lv_iload_n hx hb zd_Work_result_0 rfl (lv_at hl 0 rfl) ?_
  by_cases k0 : p0 = 1
  · have h := zq_it k0 h
    refine lv_tableIn (off := 63) (tgt := 64) hx hb zd_Work_result_1 (by rw [k0]; decide) (by rw [k0]; decide) (by rw [k0]; rfl) (by decide) ?_
    refine lv_lload_n hx hb zd_Work_result_64 rfl (lv_at hl 1 rfl) ?_
    refine lv_lload_n hx hb zd_Work_result_65 rfl (lv_at hl 2 rfl) ?_
    refine lv_ladd hx hb zd_Work_result_66 ?_
    exact hret (p1 + p2)  _ H locs 67 ls ⟨rfl, h⟩ hP rfl hS zd_Work_result_67
  · have h := zq_if k0 h
    by_cases k1 : p0 = 2
    · have h := zq_it k1 h
      refine lv_tableIn (off := 67) (tgt := 68) hx hb zd_Work_result_1 (by rw [k1]; decide) (by rw [k1]; decide) (by rw [k1]; rfl) (by decide) ?_
      refine lv_lload_n hx hb zd_Work_result_68 rfl (lv_at hl 1 rfl) ?_
      refine lv_lload_n hx hb zd_Work_result_69 rfl (lv_at hl 2 rfl) ?_
      refine lv_lsub hx hb zd_Work_result_70 ?_
      exact hret (p1 - p2)  _ H locs 71 ls ⟨rfl, h⟩ hP rfl hS zd_Work_result_71
    · have h := zq_if k1 h
      by_cases k2 : p0 = 3
      · have h := zq_it k2 h
        refine lv_tableIn (off := 71) (tgt := 72) hx hb zd_Work_result_1 (by rw [k2]; decide) (by rw [k2]; decide) (by rw [k2]; rfl) (by decide) ?_
        refine lv_lload_n hx hb zd_Work_result_72 rfl (lv_at hl 1 rfl) ?_
        refine lv_lload_n hx hb zd_Work_result_73 rfl (lv_at hl 2 rfl) ?_
        refine lv_lmul hx hb zd_Work_result_74 ?_
        exact hret (p1 * p2)  _ H locs 75 ls ⟨rfl, h⟩ hP rfl hS zd_Work_result_75
      · have h := zq_if k2 h
        by_cases k3 : p0 = 4
        · have h := zq_it k3 h
          refine lv_tableIn (off := 159) (tgt := 160) hx hb zd_Work_result_1 (by rw [k3]; decide) (by rw [k3]; decide) (by rw [k3]; rfl) (by decide) ?_
          refine lv_lload_n hx hb zd_Work_result_160 rfl (lv_at hl 1 rfl) ?_
          exact hret p1  _ H locs 161 ls ⟨rfl, h⟩ hP rfl hS zd_Work_result_161
        · have h := zq_if k3 h
          by_cases k4 : p0 = 5
          · have h := zq_it k4 h
            refine lv_tableIn (off := 159) (tgt := 160) hx hb zd_Work_result_1 (by rw [k4]; decide) (by rw [k4]; decide) (by rw [k4]; rfl) (by decide) ?_
            refine lv_lload_n hx hb zd_Work_result_160 rfl (lv_at hl 1 rfl) ?_
            exact hret p1  _ H locs 161 ls ⟨rfl, h⟩ hP rfl hS zd_Work_result_161
          · have h := zq_if k4 h
            by_cases k5 : p0 = 6
            · have h := zq_it k5 h
              refine lv_tableIn (off := 75) (tgt := 76) hx hb zd_Work_result_1 (by rw [k5]; decide) (by rw [k5]; decide) (by rw [k5]; rfl) (by decide) ?_
              refine lv_lload_n hx hb zd_Work_result_76 rfl (lv_at hl 1 rfl) ?_
              refine lv_lload_n hx hb zd_Work_result_77 rfl (lv_at hl 2 rfl) ?_
              refine lv_land hx hb zd_Work_result_78 ?_
              exact hret (p1 &&& p2)  _ H locs 79 ls ⟨rfl, h⟩ hP rfl hS zd_Work_result_79
            · have h := zq_if k5 h
              by_cases k6 : p0 = 7
              · have h := zq_it k6 h
                refine lv_tableIn (off := 79) (tgt := 80) hx hb zd_Work_result_1 (by rw [k6]; decide) (by rw [k6]; decide) (by rw [k6]; rfl) (by decide) ?_
                refine lv_lload_n hx hb zd_Work_result_80 rfl (lv_at hl 1 rfl) ?_
                refine lv_lload_n hx hb zd_Work_result_81 rfl (lv_at hl 2 rfl) ?_
                refine lv_lor hx hb zd_Work_result_82 ?_
                exact hret (p1 ||| p2)  _ H locs 83 ls ⟨rfl, h⟩ hP rfl hS zd_Work_result_83
              · have h := zq_if k6 h
                by_cases k7 : p0 = 8
                · have h := zq_it k7 h
                  refine lv_tableIn (off := 83) (tgt := 84) hx hb zd_Work_result_1 (by rw [k7]; decide) (by rw [k7]; decide) (by rw [k7]; rfl) (by decide) ?_
                  refine lv_lload_n hx hb zd_Work_result_84 rfl (lv_at hl 1 rfl) ?_
                  refine lv_lload_n hx hb zd_Work_result_85 rfl (lv_at hl 2 rfl) ?_
                  refine lv_lxor hx hb zd_Work_result_86 ?_
                  exact hret (p1 ^^^ p2)  _ H locs 87 ls ⟨rfl, h⟩ hP rfl hS zd_Work_result_87
                · have h := zq_if k7 h
                  by_cases k8 : p0 = 9
                  · have h := zq_it k8 h
                    refine lv_tableIn (off := 87) (tgt := 88) hx hb zd_Work_result_1 (by rw [k8]; decide) (by rw [k8]; decide) (by rw [k8]; rfl) (by decide) ?_
                    refine lv_lload_n hx hb zd_Work_result_88 rfl (lv_at hl 2 rfl) ?_
                    refine lv_lconst (v := 0) hx hb zd_Work_result_89 (by decide) ?_
                    refine W.lcmp hx hb zd_Work_result_90 ?_
                    refine lv_if_lt (tgt := 109) hx hb zd_Work_result_91 (by decide) (fun c_1 => ?_) (fun c_1 => ?_)
                    · have h := zq_it (zq_lc_lt.mp c_1) h
                      refine lv_lconst (v := 0) hx hb zd_Work_result_109 (by decide) ?_
                      exact hret 0  _ H locs 110 ls ⟨rfl, h⟩ hP rfl hS zd_Work_result_110
                    · have h := zq_if (fun z => c_1 (zq_lc_lt.mpr z)) h
                      refine lv_lload_n hx hb zd_Work_result_94 rfl (lv_at hl 2 rfl) ?_
                      refine W.ldc2 (v := 63) hx hb hown (ht _ zw_263) rfl zd_Work_result_95 ?_
                      refine W.eq (g2 := F0 m 98 ls [.long 63, .long p2]) rfl ?_
                      refine W.lcmp hx hb zd_Work_result_98 ?_
                      refine lv_if_gt (tgt := 109) hx hb zd_Work_result_99 (by decide) (fun c_2 => ?_) (fun c_2 => ?_)
                      · have h := zq_it (zq_lc_gt.mp c_2) h
                        refine lv_lconst (v := 0) hx hb zd_Work_result_109 (by decide) ?_
                        exact hret 0  _ H locs 110 ls ⟨rfl, h⟩ hP rfl hS zd_Work_result_110
                      · have h := zq_if (fun z => c_2 (zq_lc_gt.mpr z)) h
                        refine lv_lload_n hx hb zd_Work_result_102 rfl (lv_at hl 1 rfl) ?_
                        refine lv_lload_n hx hb zd_Work_result_103 rfl (lv_at hl 2 rfl) ?_
                        refine lv_l2i (v := (zq_j_l2i p2)) hx hb zd_Work_result_104 rfl ?_
                        refine lv_lshl (v := (zq_j_lshl p1 (zq_j_l2i p2))) hx hb zd_Work_result_105 rfl ?_
                        refine lv_goto (tgt := 110) hx hb zd_Work_result_106 (by decide) ?_
                        exact hret (zq_j_lshl p1 (zq_j_l2i p2))  _ H locs 110 ls ⟨rfl, h⟩ hP rfl hS zd_Work_result_110
                  · have h := zq_if k8 h
                    by_cases k9 : p0 = 10
                    · have h := zq_it k9 h
                      refine lv_tableIn (off := 110) (tgt := 111) hx hb zd_Work_result_1 (by rw [k9]; decide) (by rw [k9]; decide) (by rw [k9]; rfl) (by decide) ?_
                      refine lv_lload_n hx hb zd_Work_result_111 rfl (lv_at hl 2 rfl) ?_
                      refine lv_lconst (v := 0) hx hb zd_Work_result_112 (by decide) ?_
                      refine W.lcmp hx hb zd_Work_result_113 ?_
                      refine lv_if_lt (tgt := 132) hx hb zd_Work_result_114 (by decide) (fun c_3 => ?_) (fun c_3 => ?_)
                      · have h := zq_it (zq_lc_lt.mp c_3) h
                        refine lv_lconst (v := 0) hx hb zd_Work_result_132 (by decide) ?_
                        exact hret 0  _ H locs 133 ls ⟨rfl, h⟩ hP rfl hS zd_Work_result_133
                      · have h := zq_if (fun z => c_3 (zq_lc_lt.mpr z)) h
                        refine lv_lload_n hx hb zd_Work_result_117 rfl (lv_at hl 2 rfl) ?_
                        refine W.ldc2 (v := 63) hx hb hown (ht _ zw_263) rfl zd_Work_result_118 ?_
                        refine W.eq (g2 := F0 m 121 ls [.long 63, .long p2]) rfl ?_
                        refine W.lcmp hx hb zd_Work_result_121 ?_
                        refine lv_if_gt (tgt := 132) hx hb zd_Work_result_122 (by decide) (fun c_4 => ?_) (fun c_4 => ?_)
                        · have h := zq_it (zq_lc_gt.mp c_4) h
                          refine lv_lconst (v := 0) hx hb zd_Work_result_132 (by decide) ?_
                          exact hret 0  _ H locs 133 ls ⟨rfl, h⟩ hP rfl hS zd_Work_result_133
                        · have h := zq_if (fun z => c_4 (zq_lc_gt.mpr z)) h
                          refine lv_lload_n hx hb zd_Work_result_125 rfl (lv_at hl 1 rfl) ?_
                          refine lv_lload_n hx hb zd_Work_result_126 rfl (lv_at hl 2 rfl) ?_
                          refine lv_l2i (v := (zq_j_l2i p2)) hx hb zd_Work_result_127 rfl ?_
                          refine lv_lushr (v := (zq_j_lushr p1 (zq_j_l2i p2))) hx hb zd_Work_result_128 rfl ?_
                          refine lv_goto (tgt := 133) hx hb zd_Work_result_129 (by decide) ?_
                          exact hret (zq_j_lushr p1 (zq_j_l2i p2))  _ H locs 133 ls ⟨rfl, h⟩ hP rfl hS zd_Work_result_133
                    · have h := zq_if k9 h
                      by_cases k10 : p0 = 11
                      · have h := zq_it k10 h
                        refine lv_tableIn (off := 133) (tgt := 134) hx hb zd_Work_result_1 (by rw [k10]; decide) (by rw [k10]; decide) (by rw [k10]; rfl) (by decide) ?_
                        refine lv_lload_n hx hb zd_Work_result_134 rfl (lv_at hl 1 rfl) ?_
                        refine lv_lload_n hx hb zd_Work_result_135 rfl (lv_at hl 2 rfl) ?_
                        refine zq_c_Si (rest := []) (adl := []) (wr := []) ⟨hx, hb, hml, hown, ht⟩ (c_Work_isBelow l D kT ad p1 p2 _ h) (cwS 2 ht (zq_gS zw_231 zw_232 zw_233 zw_234) rfl rfl rfl zh_Work_isBelow ⟨Nat.le_of_ble_eq_true rfl, Nat.le_of_ble_eq_true rfl⟩) hE hP hD hS hA [] [] 0 rfl (by decide +kernel) rfl (by decide +kernel) rfl rfl  rfl hl.1 (Nat.le_of_ble_eq_true rfl) rfl zd_Work_result_136 ⟨Nat.zero_le _, Nat.zero_le _⟩ (fun r_5 w1 H locs hw hJ hS => ?_)
                        obtain ⟨rfl, h⟩ := hw
                        obtain ⟨hP, hD⟩ := hJ [] rfl rfl rfl
                        refine lv_if_eq (tgt := 146) hx hb zd_Work_result_139 (by decide) (fun c_6 => ?_) (fun c_6 => ?_)
                        · have h := zq_it c_6 h
                          refine lv_lconst (v := 0) hx hb zd_Work_result_146 (by decide) ?_
                          exact hret 0  _ H locs 147 ls ⟨rfl, h⟩ hP rfl hS zd_Work_result_147
                        · have h := zq_if c_6 h
                          refine lv_lconst (v := 1) hx hb zd_Work_result_142 (by decide) ?_
                          refine lv_goto (tgt := 147) hx hb zd_Work_result_143 (by decide) ?_
                          exact hret 1  _ H locs 147 ls ⟨rfl, h⟩ hP rfl hS zd_Work_result_147
                      · have h := zq_if k10 h
                        by_cases k11 : p0 = 12
                        · have h := zq_it k11 h
                          refine lv_tableIn (off := 147) (tgt := 148) hx hb zd_Work_result_1 (by rw [k11]; decide) (by rw [k11]; decide) (by rw [k11]; rfl) (by decide) ?_
                          refine lv_lload_n hx hb zd_Work_result_148 rfl (lv_at hl 1 rfl) ?_
                          refine lv_lload_n hx hb zd_Work_result_149 rfl (lv_at hl 2 rfl) ?_
                          refine W.lcmp hx hb zd_Work_result_150 ?_
                          refine lv_if_ne (tgt := 158) hx hb zd_Work_result_151 (by decide) (fun c_7 => ?_) (fun c_7 => ?_)
                          · have h := zq_if (fun z => c_7 (zq_lc_eq.mpr z)) h
                            refine lv_lconst (v := 0) hx hb zd_Work_result_158 (by decide) ?_
                            exact hret 0  _ H locs 159 ls ⟨rfl, h⟩ hP rfl hS zd_Work_result_159
                          · have h := zq_it (zq_lc_eq.mp c_7) h
                            refine lv_lconst (v := 1) hx hb zd_Work_result_154 (by decide) ?_
                            refine lv_goto (tgt := 159) hx hb zd_Work_result_155 (by decide) ?_
                            exact hret 1  _ H locs 159 ls ⟨rfl, h⟩ hP rfl hS zd_Work_result_159
                        · have h := zq_if k11 h
                          refine lv_tableOut (tgt := 160) hx hb zd_Work_result_1 (by have q0 := lv_neT k0 (a := 1) (by decide); have q1 := lv_neT k1 (a := 2) (by decide); have q2 := lv_neT k2 (a := 3) (by decide); have q3 := lv_neT k3 (a := 4) (by decide); have q4 := lv_neT k4 (a := 5) (by decide); have q5 := lv_neT k5 (a := 6) (by decide); have q6 := lv_neT k6 (a := 7) (by decide); have q7 := lv_neT k7 (a := 8) (by decide); have q8 := lv_neT k8 (a := 9) (by decide); have q9 := lv_neT k9 (a := 10) (by decide); have q10 := lv_neT k10 (a := 11) (by decide); have q11 := lv_neT k11 (a := 12) (by decide); omega) (by decide) ?_
                          refine lv_lload_n hx hb zd_Work_result_160 rfl (lv_at hl 1 rfl) ?_
                          exact hret p1  _ H locs 161 ls ⟨rfl, h⟩ hP rfl hS zd_Work_result_161
end
section
abbrev W_Work_doTransfer (kT : Nat → ClassId) (ad : Nat → Nat) (rn : Int32) (rc : Nat → Int64) (rv : Nat → Int64) (rm : Nat → Int32) (bc : Nat → Int32) (ocn : Int32) (ofn : Int32) (oc : Nat → Int64) (ofr : Nat → Int32) (oto : Nat → Int32) (osg : Nat → Int32) (ptn : Int32) (pin : Int32) (po : Nat → Int32) (pa : Nat → Int32) (pb : Nat → Int32) (pt : Nat → Int32) (kn : Int32) (kv : Int32) (kp : Nat → Int32) (kl : Nat → Int32) (wn : Int32) (wf : Nat → Int32) (wt : Nat → Int32) (wv : Nat → Int64) (xw : Int32) (xp : Int32) (xr : Int32) (xq : Int32) (xe : Int32) (xh : Int32) (xb : Int32) (cn : Nat → Int32) : va_W := [(ad 1, .inr (0, [.ref (ad 2), .ref (ad 3), .ref (ad 4), .int rn])), (ad 2, .inl (kT 1, 24, .inr (.inl rc))), (ad 3, .inl (kT 1, 24, .inr (.inl rv))), (ad 4, .inl (kT 2, 24, .inl rm)), (ad 5, .inr (1, [.ref (ad 6)])), (ad 6, .inl (kT 3, 4096, .inl bc)), (ad 7, .inr (2, [.ref (ad 1), .ref (ad 8), .ref (ad 9), .ref (ad 10), .ref (ad 11), .int ocn, .int ofn])), (ad 8, .inl (kT 1, 16, .inr (.inl oc))), (ad 9, .inl (kT 0, 16, .inl ofr)), (ad 10, .inl (kT 0, 16, .inl oto)), (ad 11, .inl (kT 2, 16, .inl osg)), (ad 12, .inr (3, [.ref (ad 13), .ref (ad 14), .ref (ad 15), .ref (ad 16), .int ptn, .ref (ad 17), .ref (ad 18), .ref (ad 19), .ref (ad 20), .ref (ad 21), .int pin])), (ad 13, .inl (kT 0, 200, .inl po)), (ad 14, .inl (kT 0, 200, .inl pa)), (ad 15, .inl (kT 0, 200, .inl pb)), (ad 16, .inl (kT 0, 200, .inl pt)), (ad 22, .inr (4, [.ref (ad 23), .ref (ad 24), .int kn, .int kv])), (ad 23, .inl (kT 0, 8, .inl kp)), (ad 24, .inl (kT 0, 8, .inl kl)), (ad 28, .inr (6, [.ref (ad 1), .ref (ad 5), .ref (ad 29), .ref (ad 30), .ref (ad 31), .int wn])), (ad 29, .inl (kT 0, 200, .inl wf)), (ad 30, .inl (kT 0, 200, .inl wt)), (ad 31, .inl (kT 1, 200, .inr (.inl wv))), (ad 32, .inr (7, [.ref (ad 1), .ref (ad 5), .ref (ad 7), .ref (ad 12), .ref (ad 22), .ref (ad 28), .ref (ad 34), .int xw, .int xp, .int xr, .int xq, .int xe, .int xh, .int xb])), (ad 34, .inl (kT 0, 9, .inl cn))]
abbrev A_Work_doTransfer (ad : Nat → Nat) : List Nat := [ad 1, ad 2, ad 3, ad 4, ad 5, ad 6, ad 7, ad 8, ad 9, ad 10, ad 11, ad 12, ad 13, ad 14, ad 15, ad 16, ad 22, ad 23, ad 24, ad 28, ad 29, ad 30, ad 31, ad 32, ad 34]
def wp_Work_doTransfer_216 (rn : Int32) (rc : Nat → Int64) (ocn : Int32) (ofn : Int32) (oc : Nat → Int64) (ofr : Nat → Int32) (oto : Nat → Int32) (osg : Nat → Int32) (ptn : Int32) (pin : Int32) (po : Nat → Int32) (pa : Nat → Int32) (pb : Nat → Int32) (pt : Nat → Int32) (kp : Nat → Int32) (kl : Nat → Int32) (xw : Int32) (xp : Int32) (xr : Int32) (rv : Nat → Int64) (rm : Nat → Int32) (bc : Nat → Int32) (kn : Int32) (kv : Int32) (wn : Int32) (wf : Nat → Int32) (wt : Nat → Int32) (wv : Nat → Int64) (xq : Int32) (xe : Int32) (xh : Int32) (xb : Int32) (cn : Nat → Int32) (y2 : Int32) (y3 : Int32) (y4 : Int64) (y6 : Int64) (y9 : Int32) (post : Int32 → (Nat → Int64) → (Nat → Int32) → (Nat → Int32) → Int32 → Int32 → Int32 → (Nat → Int32) → (Nat → Int32) → (Nat → Int64) → Int32 → Int32 → Int32 → Int32 → (Nat → Int32) → Prop) : Prop := wp_Work_divide rn rc rv rm bc wn wf wt wv xw xp xr xq xe xh xb y2 y4 y6 y3 y9 (fun r_48 rv_40 rm_41 bc_42 wn_43 wf_44 wt_45 wv_46 xq_47 => post r_48 rv_40 rm_41 bc_42 kn kv wn_43 wf_44 wt_45 wv_46 xq_47 xe xh xb cn)
def wp_Work_doTransfer_350 (rn : Int32) (rc : Nat → Int64) (ocn : Int32) (ofn : Int32) (oc : Nat → Int64) (ofr : Nat → Int32) (oto : Nat → Int32) (osg : Nat → Int32) (ptn : Int32) (pin : Int32) (po : Nat → Int32) (pa : Nat → Int32) (pb : Nat → Int32) (pt : Nat → Int32) (kp : Nat → Int32) (kl : Nat → Int32) (xw : Int32) (xp : Int32) (xr : Int32) (rv : Nat → Int64) (rm : Nat → Int32) (bc : Nat → Int32) (kn : Int32) (kv : Int32) (wn : Int32) (wf : Nat → Int32) (wt : Nat → Int32) (wv : Nat → Int64) (xq : Int32) (xe : Int32) (xh : Int32) (xb : Int32) (cn : Nat → Int32) (y2 : Int32) (y3 : Int32) (y4 : Int64) (y6 : Int64) (y9 : Int32) (post : Int32 → (Nat → Int64) → (Nat → Int32) → (Nat → Int32) → Int32 → Int32 → Int32 → (Nat → Int32) → (Nat → Int32) → (Nat → Int64) → Int32 → Int32 → Int32 → Int32 → (Nat → Int32) → Prop) : Prop := wp_Work_result y2 y4 y6 (fun r_70 => wp_Work_write rn rc rv rm bc wn wf wt wv xw xp xr xq xe xh xb y9 y3 r_70 (fun rv_71 rm_72 bc_73 wn_74 wf_75 wt_76 wv_77 xq_78 => post 0 rv_71 rm_72 bc_73 kn kv wn_74 wf_75 wt_76 wv_77 xq_78 xe xh xb cn))
def wp_Work_doTransfer_241 (rn : Int32) (rc : Nat → Int64) (ocn : Int32) (ofn : Int32) (oc : Nat → Int64) (ofr : Nat → Int32) (oto : Nat → Int32) (osg : Nat → Int32) (ptn : Int32) (pin : Int32) (po : Nat → Int32) (pa : Nat → Int32) (pb : Nat → Int32) (pt : Nat → Int32) (kp : Nat → Int32) (kl : Nat → Int32) (xw : Int32) (xp : Int32) (xr : Int32) (rv : Nat → Int64) (rm : Nat → Int32) (bc : Nat → Int32) (kn : Int32) (kv : Int32) (wn : Int32) (wf : Nat → Int32) (wt : Nat → Int32) (wv : Nat → Int64) (xq : Int32) (xe : Int32) (xh : Int32) (xb : Int32) (cn : Nat → Int32) (y3 : Int32) (y4 : Int64) (y6 : Int64) (y9 : Int32) (z0 : Int32) (post : Int32 → (Nat → Int64) → (Nat → Int32) → (Nat → Int32) → Int32 → Int32 → Int32 → (Nat → Int32) → (Nat → Int32) → (Nat → Int64) → Int32 → Int32 → Int32 → Int32 → (Nat → Int32) → Prop) : Prop := wp_Work_load rn rc rv rm bc wn wf wt wv xw xp xr xq xe xh xb cn z0 (y4 + y6) y3 y9 (fun r_89 rv_80 rm_81 bc_82 wn_83 wf_84 wt_85 wv_86 xq_87 cn_88 => post r_89 rv_80 rm_81 bc_82 kn kv wn_83 wf_84 wt_85 wv_86 xq_87 xe xh xb cn_88)
def wp_Work_doTransfer_229 (rn : Int32) (rc : Nat → Int64) (ocn : Int32) (ofn : Int32) (oc : Nat → Int64) (ofr : Nat → Int32) (oto : Nat → Int32) (osg : Nat → Int32) (ptn : Int32) (pin : Int32) (po : Nat → Int32) (pa : Nat → Int32) (pb : Nat → Int32) (pt : Nat → Int32) (kp : Nat → Int32) (kl : Nat → Int32) (xw : Int32) (xp : Int32) (xr : Int32) (rv : Nat → Int64) (rm : Nat → Int32) (bc : Nat → Int32) (kn : Int32) (kv : Int32) (wn : Int32) (wf : Nat → Int32) (wt : Nat → Int32) (wv : Nat → Int64) (xq : Int32) (xe : Int32) (xh : Int32) (xb : Int32) (cn : Nat → Int32) (y2 : Int32) (y3 : Int32) (y4 : Int64) (y6 : Int64) (y9 : Int32) (post : Int32 → (Nat → Int64) → (Nat → Int32) → (Nat → Int32) → Int32 → Int32 → Int32 → (Nat → Int32) → (Nat → Int32) → (Nat → Int64) → Int32 → Int32 → Int32 → Int32 → (Nat → Int32) → Prop) : Prop := (if y2 = 14 then wp_Work_doTransfer_241 rn rc ocn ofn oc ofr oto osg ptn pin po pa pb pt kp kl xw xp xr rv rm bc kn kv wn wf wt wv xq xe xh xb cn y3 y4 y6 y9 1 post else wp_Work_doTransfer_241 rn rc ocn ofn oc ofr oto osg ptn pin po pa pb pt kp kl xw xp xr rv rm bc kn kv wn wf wt wv xq xe xh xb cn y3 y4 y6 y9 0 post)
def wp_Work_doTransfer_253 (rn : Int32) (rc : Nat → Int64) (ocn : Int32) (ofn : Int32) (oc : Nat → Int64) (ofr : Nat → Int32) (oto : Nat → Int32) (osg : Nat → Int32) (ptn : Int32) (pin : Int32) (po : Nat → Int32) (pa : Nat → Int32) (pb : Nat → Int32) (pt : Nat → Int32) (kp : Nat → Int32) (kl : Nat → Int32) (xw : Int32) (xp : Int32) (xr : Int32) (rv : Nat → Int64) (rm : Nat → Int32) (bc : Nat → Int32) (kn : Int32) (kv : Int32) (wn : Int32) (wf : Nat → Int32) (wt : Nat → Int32) (wv : Nat → Int64) (xq : Int32) (xe : Int32) (xh : Int32) (xb : Int32) (cn : Nat → Int32) (y2 : Int32) (y4 : Int64) (y6 : Int64) (post : Int32 → (Nat → Int64) → (Nat → Int32) → (Nat → Int32) → Int32 → Int32 → Int32 → (Nat → Int32) → (Nat → Int32) → (Nat → Int64) → Int32 → Int32 → Int32 → Int32 → (Nat → Int32) → Prop) : Prop := (if y2 = 16 then wp_Work_store rn rc rv rm bc wn wf wt wv xw xp xr xq xe xh xb cn 1 y4 y6 (fun r_69 rv_60 rm_61 bc_62 wn_63 wf_64 wt_65 wv_66 xq_67 cn_68 => post r_69 rv_60 rm_61 bc_62 kn kv wn_63 wf_64 wt_65 wv_66 xq_67 xe xh xb cn_68) else wp_Work_store rn rc rv rm bc wn wf wt wv xw xp xr xq xe xh xb cn 0 y4 y6 (fun r_59 rv_50 rm_51 bc_52 wn_53 wf_54 wt_55 wv_56 xq_57 cn_58 => post r_59 rv_50 rm_51 bc_52 kn kv wn_53 wf_54 wt_55 wv_56 xq_57 xe xh xb cn_58))
def wp_Work_doTransfer_123 (rn : Int32) (rc : Nat → Int64) (ocn : Int32) (ofn : Int32) (oc : Nat → Int64) (ofr : Nat → Int32) (oto : Nat → Int32) (osg : Nat → Int32) (ptn : Int32) (pin : Int32) (po : Nat → Int32) (pa : Nat → Int32) (pb : Nat → Int32) (pt : Nat → Int32) (kp : Nat → Int32) (kl : Nat → Int32) (xw : Int32) (xp : Int32) (xr : Int32) (rv : Nat → Int64) (rm : Nat → Int32) (bc : Nat → Int32) (kn : Int32) (kv : Int32) (wn : Int32) (wf : Nat → Int32) (wt : Nat → Int32) (wv : Nat → Int64) (xq : Int32) (xe : Int32) (xh : Int32) (xb : Int32) (cn : Nat → Int32) (y2 : Int32) (y3 : Int32) (y4 : Int64) (y6 : Int64) (z0 : Int32) (post : Int32 → (Nat → Int64) → (Nat → Int32) → (Nat → Int32) → Int32 → Int32 → Int32 → (Nat → Int32) → (Nat → Int32) → (Nat → Int64) → Int32 → Int32 → Int32 → Int32 → (Nat → Int32) → Prop) : Prop := (if y2 = 4 then wp_Work_doTransfer_216 rn rc ocn ofn oc ofr oto osg ptn pin po pa pb pt kp kl xw xp xr rv rm bc kn kv wn wf wt wv xq xe xh xb cn y2 y3 y4 y6 z0 post else (if y2 = 5 then wp_Work_doTransfer_216 rn rc ocn ofn oc ofr oto osg ptn pin po pa pb pt kp kl xw xp xr rv rm bc kn kv wn wf wt wv xq xe xh xb cn y2 y3 y4 y6 z0 post else (if y2 = 6 then wp_Work_doTransfer_350 rn rc ocn ofn oc ofr oto osg ptn pin po pa pb pt kp kl xw xp xr rv rm bc kn kv wn wf wt wv xq xe xh xb cn y2 y3 y4 y6 z0 post else (if y2 = 7 then wp_Work_doTransfer_350 rn rc ocn ofn oc ofr oto osg ptn pin po pa pb pt kp kl xw xp xr rv rm bc kn kv wn wf wt wv xq xe xh xb cn y2 y3 y4 y6 z0 post else (if y2 = 8 then wp_Work_doTransfer_350 rn rc ocn ofn oc ofr oto osg ptn pin po pa pb pt kp kl xw xp xr rv rm bc kn kv wn wf wt wv xq xe xh xb cn y2 y3 y4 y6 z0 post else (if y2 = 9 then wp_Work_doTransfer_350 rn rc ocn ofn oc ofr oto osg ptn pin po pa pb pt kp kl xw xp xr rv rm bc kn kv wn wf wt wv xq xe xh xb cn y2 y3 y4 y6 z0 post else (if y2 = 10 then wp_Work_doTransfer_350 rn rc ocn ofn oc ofr oto osg ptn pin po pa pb pt kp kl xw xp xr rv rm bc kn kv wn wf wt wv xq xe xh xb cn y2 y3 y4 y6 z0 post else (if y2 = 11 then wp_Work_doTransfer_350 rn rc ocn ofn oc ofr oto osg ptn pin po pa pb pt kp kl xw xp xr rv rm bc kn kv wn wf wt wv xq xe xh xb cn y2 y3 y4 y6 z0 post else (if y2 = 12 then wp_Work_doTransfer_350 rn rc ocn ofn oc ofr oto osg ptn pin po pa pb pt kp kl xw xp xr rv rm bc kn kv wn wf wt wv xq xe xh xb cn y2 y3 y4 y6 z0 post else (if y2 = 13 then wp_Work_doTransfer_229 rn rc ocn ofn oc ofr oto osg ptn pin po pa pb pt kp kl xw xp xr rv rm bc kn kv wn wf wt wv xq xe xh xb cn y2 y3 y4 y6 z0 post else (if y2 = 14 then wp_Work_doTransfer_229 rn rc ocn ofn oc ofr oto osg ptn pin po pa pb pt kp kl xw xp xr rv rm bc kn kv wn wf wt wv xq xe xh xb cn y2 y3 y4 y6 z0 post else (if y2 = 15 then wp_Work_doTransfer_253 rn rc ocn ofn oc ofr oto osg ptn pin po pa pb pt kp kl xw xp xr rv rm bc kn kv wn wf wt wv xq xe xh xb cn y2 y4 y6 post else (if y2 = 16 then wp_Work_doTransfer_253 rn rc ocn ofn oc ofr oto osg ptn pin po pa pb pt kp kl xw xp xr rv rm bc kn kv wn wf wt wv xq xe xh xb cn y2 y4 y6 post else (if y2 = 17 then (if y4 = 0 then post 0 rv rm bc kn kv wn wf wt wv xq 1 xh xb cn else post 0 rv rm bc kn kv wn wf wt wv xq 0 xh xb cn) else (if y2 = 18 then (if y6 = 0 then post 0 rv rm bc kn kv wn wf wt wv xq xe xh xb cn else post (8 + (zq_j_l2i (y4 &&& 7))) rv rm bc kn kv wn wf wt wv xq xe xh xb cn) else (if y2 = 19 then wp_Work_write rn rc rv rm bc wn wf wt wv xw xp xr xq xe xh xb 2 y3 0 (fun rv_17 rm_18 bc_19 wn_20 wf_21 wt_22 wv_23 xq_24 => post 0 rv_17 rm_18 bc_19 kn kv wn_20 wf_21 wt_22 wv_23 xq_24 xe xh xb cn) else (if y2 = 20 then (if kv = 0 then post 5 rv rm bc kn kv wn wf wt wv xq xe xh xb cn else post 0 rv rm bc kn kv wn wf wt wv xq xe xh xb cn) else (if y2 = 21 then post 0 rv rm bc kn kv wn wf wt wv xq xe 1 xb cn else (if y2 = 22 then wp_Work_goBack rn rc rv rm bc kn kv kp kl wn wf wt wv xw xp xr xq xe xh xb (fun r_38 rv_27 rm_28 bc_29 kn_30 kv_31 wn_32 wf_33 wt_34 wv_35 xq_36 xb_37 => post r_38 rv_27 rm_28 bc_29 kn_30 kv_31 wn_32 wf_33 wt_34 wv_35 xq_36 xe xh xb_37 cn) else wp_Work_doTransfer_350 rn rc ocn ofn oc ofr oto osg ptn pin po pa pb pt kp kl xw xp xr rv rm bc kn kv wn wf wt wv xq xe xh xb cn y2 y3 y4 y6 z0 post)))))))))))))))))))
def wp_Work_doTransfer_111 (rn : Int32) (rc : Nat → Int64) (ocn : Int32) (ofn : Int32) (oc : Nat → Int64) (ofr : Nat → Int32) (oto : Nat → Int32) (osg : Nat → Int32) (ptn : Int32) (pin : Int32) (po : Nat → Int32) (pa : Nat → Int32) (pb : Nat → Int32) (pt : Nat → Int32) (kp : Nat → Int32) (kl : Nat → Int32) (xw : Int32) (xp : Int32) (xr : Int32) (rv : Nat → Int64) (rm : Nat → Int32) (bc : Nat → Int32) (kn : Int32) (kv : Int32) (wn : Int32) (wf : Nat → Int32) (wt : Nat → Int32) (wv : Nat → Int64) (xq : Int32) (xe : Int32) (xh : Int32) (xb : Int32) (cn : Nat → Int32) (y2 : Int32) (y3 : Int32) (y4 : Int64) (y6 : Int64) (z0 : Int32) (post : Int32 → (Nat → Int64) → (Nat → Int32) → (Nat → Int32) → Int32 → Int32 → Int32 → (Nat → Int32) → (Nat → Int32) → (Nat → Int64) → Int32 → Int32 → Int32 → Int32 → (Nat → Int32) → Prop) : Prop := (if z0 = 0 then wp_Work_doTransfer_123 rn rc ocn ofn oc ofr oto osg ptn pin po pa pb pt kp kl xw xp xr rv rm bc kn kv wn wf wt wv xq xe xh xb cn y2 y3 y4 y6 0 post else wp_Work_doTransfer_123 rn rc ocn ofn oc ofr oto osg ptn pin po pa pb pt kp kl xw xp xr rv rm bc kn kv wn wf wt wv xq xe xh xb cn y2 y3 y4 y6 1 post)
def wp_Work_doTransfer_106 (rn : Int32) (rc : Nat → Int64) (ocn : Int32) (ofn : Int32) (oc : Nat → Int64) (ofr : Nat → Int32) (oto : Nat → Int32) (osg : Nat → Int32) (ptn : Int32) (pin : Int32) (po : Nat → Int32) (pa : Nat → Int32) (pb : Nat → Int32) (pt : Nat → Int32) (kp : Nat → Int32) (kl : Nat → Int32) (xw : Int32) (xp : Int32) (xr : Int32) (rv : Nat → Int64) (rm : Nat → Int32) (bc : Nat → Int32) (kn : Int32) (kv : Int32) (wn : Int32) (wf : Nat → Int32) (wt : Nat → Int32) (wv : Nat → Int64) (xq : Int32) (xe : Int32) (xh : Int32) (xb : Int32) (cn : Nat → Int32) (y2 : Int32) (y3 : Int32) (y4 : Int64) (y6 : Int64) (post : Int32 → (Nat → Int64) → (Nat → Int32) → (Nat → Int32) → Int32 → Int32 → Int32 → (Nat → Int32) → (Nat → Int32) → (Nat → Int64) → Int32 → Int32 → Int32 → Int32 → (Nat → Int32) → Prop) : Prop := wp_Work_doTransfer_111 rn rc ocn ofn oc ofr oto osg ptn pin po pa pb pt kp kl xw xp xr rv rm bc kn kv wn wf wt wv xq xe xh xb cn y2 y3 y4 y6 1 post
def wp_Work_doTransfer_110 (rn : Int32) (rc : Nat → Int64) (ocn : Int32) (ofn : Int32) (oc : Nat → Int64) (ofr : Nat → Int32) (oto : Nat → Int32) (osg : Nat → Int32) (ptn : Int32) (pin : Int32) (po : Nat → Int32) (pa : Nat → Int32) (pb : Nat → Int32) (pt : Nat → Int32) (kp : Nat → Int32) (kl : Nat → Int32) (xw : Int32) (xp : Int32) (xr : Int32) (rv : Nat → Int64) (rm : Nat → Int32) (bc : Nat → Int32) (kn : Int32) (kv : Int32) (wn : Int32) (wf : Nat → Int32) (wt : Nat → Int32) (wv : Nat → Int64) (xq : Int32) (xe : Int32) (xh : Int32) (xb : Int32) (cn : Nat → Int32) (y2 : Int32) (y3 : Int32) (y4 : Int64) (y6 : Int64) (post : Int32 → (Nat → Int64) → (Nat → Int32) → (Nat → Int32) → Int32 → Int32 → Int32 → (Nat → Int32) → (Nat → Int32) → (Nat → Int64) → Int32 → Int32 → Int32 → Int32 → (Nat → Int32) → Prop) : Prop := wp_Work_doTransfer_111 rn rc ocn ofn oc ofr oto osg ptn pin po pa pb pt kp kl xw xp xr rv rm bc kn kv wn wf wt wv xq xe xh xb cn y2 y3 y4 y6 0 post
def wp_Work_doTransfer (rn : Int32) (rc : Nat → Int64) (rv : Nat → Int64) (rm : Nat → Int32) (bc : Nat → Int32) (ocn : Int32) (ofn : Int32) (oc : Nat → Int64) (ofr : Nat → Int32) (oto : Nat → Int32) (osg : Nat → Int32) (ptn : Int32) (pin : Int32) (po : Nat → Int32) (pa : Nat → Int32) (pb : Nat → Int32) (pt : Nat → Int32) (kn : Int32) (kv : Int32) (kp : Nat → Int32) (kl : Nat → Int32) (wn : Int32) (wf : Nat → Int32) (wt : Nat → Int32) (wv : Nat → Int64) (xw : Int32) (xp : Int32) (xr : Int32) (xq : Int32) (xe : Int32) (xh : Int32) (xb : Int32) (cn : Nat → Int32) (p0 : Int32) (post : Int32 → (Nat → Int64) → (Nat → Int32) → (Nat → Int32) → Int32 → Int32 → Int32 → (Nat → Int32) → (Nat → Int32) → (Nat → Int64) → Int32 → Int32 → Int32 → Int32 → (Nat → Int32) → Prop) : Prop := vp_in p0 200 ∧ vp_in p0 200 ∧ vp_in p0 200 ∧ wp_Operands_read rn rv ocn ofn oc ofr oto osg (pa p0.toNatClampNeg) xw (fun r_4 => vp_in p0 200 ∧ wp_Operands_read rn rv ocn ofn oc ofr oto osg (pb p0.toNatClampNeg) xw (fun r_6 => vp_in p0 200 ∧ wp_Operands_isMarked rn rm ocn ofn (pa p0.toNatClampNeg) (fun r_8 => (if r_8 = 0 then (if (po p0.toNatClampNeg) = 0 then wp_Work_doTransfer_110 rn rc ocn ofn oc ofr oto osg ptn pin po pa pb pt kp kl xw xp xr rv rm bc kn kv wn wf wt wv xq xe xh xb cn (po p0.toNatClampNeg) (pt p0.toNatClampNeg) r_4 r_6 post else vp_in p0 200 ∧ wp_Operands_isMarked rn rm ocn ofn (pb p0.toNatClampNeg) (fun r_12 => (if r_12 = 0 then wp_Work_doTransfer_110 rn rc ocn ofn oc ofr oto osg ptn pin po pa pb pt kp kl xw xp xr rv rm bc kn kv wn wf wt wv xq xe xh xb cn (po p0.toNatClampNeg) (pt p0.toNatClampNeg) r_4 r_6 post else wp_Work_doTransfer_106 rn rc ocn ofn oc ofr oto osg ptn pin po pa pb pt kp kl xw xp xr rv rm bc kn kv wn wf wt wv xq xe xh xb cn (po p0.toNatClampNeg) (pt p0.toNatClampNeg) r_4 r_6 post))) else wp_Work_doTransfer_106 rn rc ocn ofn oc ofr oto osg ptn pin po pa pb pt kp kl xw xp xr rv rm bc kn kv wn wf wt wv xq xe xh xb cn (po p0.toNatClampNeg) (pt p0.toNatClampNeg) r_4 r_6 post))))
set_option maxHeartbeats 4000000 in
set_option maxRecDepth 100000 in
theorem c_Work_doTransfer (l : Launch) (D : va_G) (kT : Nat → ClassId) (ad : Nat → Nat) (rn : Int32) (rc : Nat → Int64) (rv : Nat → Int64) (rm : Nat → Int32) (bc : Nat → Int32) (ocn : Int32) (ofn : Int32) (oc : Nat → Int64) (ofr : Nat → Int32) (oto : Nat → Int32) (osg : Nat → Int32) (ptn : Int32) (pin : Int32) (po : Nat → Int32) (pa : Nat → Int32) (pb : Nat → Int32) (pt : Nat → Int32) (kn : Int32) (kv : Int32) (kp : Nat → Int32) (kl : Nat → Int32) (wn : Int32) (wf : Nat → Int32) (wt : Nat → Int32) (wv : Nat → Int64) (xw : Int32) (xp : Int32) (xr : Int32) (xq : Int32) (xe : Int32) (xh : Int32) (xb : Int32) (cn : Nat → Int32) (p0 : Int32) (post : Int32 → (Nat → Int64) → (Nat → Int32) → (Nat → Int32) → Int32 → Int32 → Int32 → (Nat → Int32) → (Nat → Int32) → (Nat → Int64) → Int32 → Int32 → Int32 → Int32 → (Nat → Int32) → Prop) (h : wp_Work_doTransfer rn rc rv rm bc ocn ofn oc ofr oto osg ptn pin po pa pb pt kn kv kp kl wn wf wt wv xw xp xr xq xe xh xb cn p0 post) : zq_Mi l zy_Work_doTransfer zs_Work_doTransfer ({ frames := 4, cells := 0, slots := 0, locals := 101 }) D kT [.ref (ad 32), .int p0] (W_Work_doTransfer kT ad rn rc rv rm bc ocn ofn oc ofr oto osg ptn pin po pa pb pt kn kv kp kl wn wf wt wv xw xp xr xq xe xh xb cn) (fun r w' => ∃ (rv' : Nat → Int64) (rm' : Nat → Int32) (bc' : Nat → Int32) (kn' : Int32) (kv' : Int32) (wn' : Int32) (wf' : Nat → Int32) (wt' : Nat → Int32) (wv' : Nat → Int64) (xq' : Int32) (xe' : Int32) (xh' : Int32) (xb' : Int32) (cn' : Nat → Int32), w' = (W_Work_doTransfer kT ad rn rc rv' rm' bc' ocn ofn oc ofr oto osg ptn pin po pa pb pt kn' kv' kp kl wn' wf' wt' wv' xw xp xr xq' xe' xh' xb' cn') ∧ post r rv' rm' bc' kn' kv' wn' wf' wt' wv' xq' xe' xh' xb' cn') := by
  refine zq_Mi_of (adl := (A_Work_doTransfer ad)) (cc := zb_Work_doTransfer) (maxL := 10) (own := zR_Work) rfl (by decide) rfl rfl (Nat.le_of_ble_eq_true rfl) ?_
  intro p e s m AV below meth c A QQ H locs ls hx hb hml hown ht hE hA hret hP hD hS hl
  have hK := hE.1
  have hl : lv_has ls 10 [(0, .ref (ad 32)), (1, .int p0)] := hl
  have B216 : ∀  (rv : Nat → Int64) (rm : Nat → Int32) (bc : Nat → Int32) (kn : Int32) (kv : Int32) (wn : Int32) (wf : Nat → Int32) (wt : Nat → Int32) (wv : Nat → Int64) (xq : Int32) (xe : Int32) (xh : Int32) (xb : Int32) (cn : Nat → Int32) (y2 : Int32) (y3 : Int32) (y4 : Int64) (y6 : Int64) (y9 : Int32) (H : Heap) (locs : List Loc) (ls : Array Slot), wp_Work_doTransfer_216 rn rc ocn ofn oc ofr oto osg ptn pin po pa pb pt kp kl xw xp xr rv rm bc kn kv wn wf wt wv xq xe xh xb cn y2 y3 y4 y6 y9 post → va_P D vwCl (W_Work_doTransfer kT ad rn rc rv rm bc ocn ofn oc ofr oto osg ptn pin po pa pb pt kn kv kp kl wn wf wt wv xw xp xr xq xe xh xb cn) H → va_D A (W_Work_doTransfer kT ad rn rc rv rm bc ocn ofn oc ofr oto osg ptn pin po pa pb pt kn kv kp kl wn wf wt wv xw xp xr xq xe xh xb cn) → va_S A s.heap H locs → lv_has ls 10 [(0, .ref (ad 32)), (2, .int y2), (3, .int y3), (4, .long y4), (6, .long y6), (9, .int y9)] → W p l e ({ frames := 4, cells := 0, slots := 0, locals := 101 }) s m AV below meth c H locs 0 0 QQ (F0 m 216 ls []) := by
    intro rv rm bc kn kv wn wf wt wv xq xe xh xb cn y2 y3 y4 y6 y9 H locs ls h hP hD hS hl
    refine lv_aload_n hx hb zd_Work_doTransfer_216 rfl (lv_at hl 0 rfl) ?_
    refine lv_iload_n hx hb zd_Work_doTransfer_217 rfl (lv_at hl 1 rfl) ?_
    refine lv_lload hx hb zd_Work_doTransfer_218 (lv_at hl 3 rfl) ?_
    refine lv_lload hx hb zd_Work_doTransfer_220 (lv_at hl 4 rfl) ?_
    refine lv_iload_n hx hb zd_Work_doTransfer_222 rfl (lv_at hl 2 rfl) ?_
    refine lv_iload hx hb zd_Work_doTransfer_223 (lv_at hl 5 rfl) ?_
    refine zq_c_Vi (rest := []) (adl := (A_Work_doTransfer ad)) (wr := [(ad 7, .inr (2, [.ref (ad 1), .ref (ad 8), .ref (ad 9), .ref (ad 10), .ref (ad 11), .int ocn, .int ofn])), (ad 8, .inl (kT 1, 16, .inr (.inl oc))), (ad 9, .inl (kT 0, 16, .inl ofr)), (ad 10, .inl (kT 0, 16, .inl oto)), (ad 11, .inl (kT 2, 16, .inl osg)), (ad 12, .inr (3, [.ref (ad 13), .ref (ad 14), .ref (ad 15), .ref (ad 16), .int ptn, .ref (ad 17), .ref (ad 18), .ref (ad 19), .ref (ad 20), .ref (ad 21), .int pin])), (ad 13, .inl (kT 0, 200, .inl po)), (ad 14, .inl (kT 0, 200, .inl pa)), (ad 15, .inl (kT 0, 200, .inl pb)), (ad 16, .inl (kT 0, 200, .inl pt)), (ad 22, .inr (4, [.ref (ad 23), .ref (ad 24), .int kn, .int kv])), (ad 23, .inl (kT 0, 8, .inl kp)), (ad 24, .inl (kT 0, 8, .inl kl)), (ad 34, .inl (kT 0, 9, .inl cn))]) ⟨hx, hb, hml, hown, ht⟩ (c_Work_divide l D kT ad rn rc rv rm bc wn wf wt wv xw xp xr xq xe xh xb y2 y4 y6 y3 y9 _ h) (cwV 5 ht (zq_gV zw_278 zw_279 zw_280 zw_233 zw_281) rfl rfl rfl zh_Work_divide ⟨Nat.le_of_ble_eq_true rfl, Nat.le_of_ble_eq_true rfl⟩) hE hP hD hS hA [0, 1, 2, 3, 4, 5, 19, 20, 21, 22, 23] [6, 7, 8, 9, 10, 11, 12, 13, 14, 15, 16, 17, 18, 24] 25 rfl (by decide +kernel) rfl (by decide +kernel) rfl rfl 10 rfl rfl rfl rfl hl.1 (Nat.le_of_ble_eq_true rfl) rfl zd_Work_doTransfer_225 ⟨Nat.zero_le _, Nat.zero_le _⟩ (fun r_48 w1 H locs hw hJ hS => ?_)
    obtain ⟨rv_40, rm_41, bc_42, wn_43, wf_44, wt_45, wv_46, xq_47, rfl, h⟩ := hw
    obtain ⟨hP, hD⟩ := hJ (W_Work_doTransfer kT ad rn rc rv_40 rm_41 bc_42 ocn ofn oc ofr oto osg ptn pin po pa pb pt kn kv kp kl wn_43 wf_44 wt_45 wv_46 xw xp xr xq_47 xe xh xb cn) rfl rfl rfl
    exact hret r_48  _ H locs 228 ls ⟨rv_40, rm_41, bc_42, kn, kv, wn_43, wf_44, wt_45, wv_46, xq_47, xe, xh, xb, cn, rfl, h⟩ hP rfl hS zd_Work_doTransfer_228
  have B350 : ∀  (rv : Nat → Int64) (rm : Nat → Int32) (bc : Nat → Int32) (kn : Int32) (kv : Int32) (wn : Int32) (wf : Nat → Int32) (wt : Nat → Int32) (wv : Nat → Int64) (xq : Int32) (xe : Int32) (xh : Int32) (xb : Int32) (cn : Nat → Int32) (y2 : Int32) (y3 : Int32) (y4 : Int64) (y6 : Int64) (y9 : Int32) (H : Heap) (locs : List Loc) (ls : Array Slot), wp_Work_doTransfer_350 rn rc ocn ofn oc ofr oto osg ptn pin po pa pb pt kp kl xw xp xr rv rm bc kn kv wn wf wt wv xq xe xh xb cn y2 y3 y4 y6 y9 post → va_P D vwCl (W_Work_doTransfer kT ad rn rc rv rm bc ocn ofn oc ofr oto osg ptn pin po pa pb pt kn kv kp kl wn wf wt wv xw xp xr xq xe xh xb cn) H → va_D A (W_Work_doTransfer kT ad rn rc rv rm bc ocn ofn oc ofr oto osg ptn pin po pa pb pt kn kv kp kl wn wf wt wv xw xp xr xq xe xh xb cn) → va_S A s.heap H locs → lv_has ls 10 [(0, .ref (ad 32)), (2, .int y2), (3, .int y3), (4, .long y4), (6, .long y6), (9, .int y9)] → W p l e ({ frames := 4, cells := 0, slots := 0, locals := 101 }) s m AV below meth c H locs 0 0 QQ (F0 m 350 ls []) := by
    intro rv rm bc kn kv wn wf wt wv xq xe xh xb cn y2 y3 y4 y6 y9 H locs ls h hP hD hS hl
    refine lv_aload_n hx hb zd_Work_doTransfer_350 rfl (lv_at hl 0 rfl) ?_
    refine lv_iload hx hb zd_Work_doTransfer_351 (lv_at hl 5 rfl) ?_
    refine lv_iload_n hx hb zd_Work_doTransfer_353 rfl (lv_at hl 2 rfl) ?_
    refine lv_iload_n hx hb zd_Work_doTransfer_354 rfl (lv_at hl 1 rfl) ?_
    refine lv_lload hx hb zd_Work_doTransfer_355 (lv_at hl 3 rfl) ?_
    refine lv_lload hx hb zd_Work_doTransfer_357 (lv_at hl 4 rfl) ?_
    refine zq_c_Sl (rest := [.int y3, .int y9, .ref (ad 32)]) (adl := (A_Work_doTransfer ad)) (wr := [(ad 1, .inr (0, [.ref (ad 2), .ref (ad 3), .ref (ad 4), .int rn])), (ad 2, .inl (kT 1, 24, .inr (.inl rc))), (ad 3, .inl (kT 1, 24, .inr (.inl rv))), (ad 4, .inl (kT 2, 24, .inl rm)), (ad 5, .inr (1, [.ref (ad 6)])), (ad 6, .inl (kT 3, 4096, .inl bc)), (ad 7, .inr (2, [.ref (ad 1), .ref (ad 8), .ref (ad 9), .ref (ad 10), .ref (ad 11), .int ocn, .int ofn])), (ad 8, .inl (kT 1, 16, .inr (.inl oc))), (ad 9, .inl (kT 0, 16, .inl ofr)), (ad 10, .inl (kT 0, 16, .inl oto)), (ad 11, .inl (kT 2, 16, .inl osg)), (ad 12, .inr (3, [.ref (ad 13), .ref (ad 14), .ref (ad 15), .ref (ad 16), .int ptn, .ref (ad 17), .ref (ad 18), .ref (ad 19), .ref (ad 20), .ref (ad 21), .int pin])), (ad 13, .inl (kT 0, 200, .inl po)), (ad 14, .inl (kT 0, 200, .inl pa)), (ad 15, .inl (kT 0, 200, .inl pb)), (ad 16, .inl (kT 0, 200, .inl pt)), (ad 22, .inr (4, [.ref (ad 23), .ref (ad 24), .int kn, .int kv])), (ad 23, .inl (kT 0, 8, .inl kp)), (ad 24, .inl (kT 0, 8, .inl kl)), (ad 28, .inr (6, [.ref (ad 1), .ref (ad 5), .ref (ad 29), .ref (ad 30), .ref (ad 31), .int wn])), (ad 29, .inl (kT 0, 200, .inl wf)), (ad 30, .inl (kT 0, 200, .inl wt)), (ad 31, .inl (kT 1, 200, .inr (.inl wv))), (ad 32, .inr (7, [.ref (ad 1), .ref (ad 5), .ref (ad 7), .ref (ad 12), .ref (ad 22), .ref (ad 28), .ref (ad 34), .int xw, .int xp, .int xr, .int xq, .int xe, .int xh, .int xb])), (ad 34, .inl (kT 0, 9, .inl cn))]) ⟨hx, hb, hml, hown, ht⟩ (c_Work_result l D kT ad y2 y4 y6 _ h) (cwS 3 ht (zq_gS zw_286 zw_287 zw_233 zw_288) rfl rfl rfl zh_Work_result ⟨Nat.le_of_ble_eq_true rfl, Nat.le_of_ble_eq_true rfl⟩) hE hP hD hS hA [] [0, 1, 2, 3, 4, 5, 6, 7, 8, 9, 10, 11, 12, 13, 14, 15, 16, 17, 18, 19, 20, 21, 22, 23, 24] 25 rfl (by decide +kernel) rfl (by decide +kernel) rfl rfl  rfl hl.1 (Nat.le_of_ble_eq_true rfl) rfl zd_Work_doTransfer_359 ⟨Nat.zero_le _, Nat.zero_le _⟩ (fun r_70 w1 H locs hw hJ hS => ?_)
    obtain ⟨rfl, h⟩ := hw
    obtain ⟨hP, hD⟩ := hJ (W_Work_doTransfer kT ad rn rc rv rm bc ocn ofn oc ofr oto osg ptn pin po pa pb pt kn kv kp kl wn wf wt wv xw xp xr xq xe xh xb cn) rfl rfl rfl
    refine zq_c_Vv (rest := []) (adl := (A_Work_doTransfer ad)) (wr := [(ad 7, .inr (2, [.ref (ad 1), .ref (ad 8), .ref (ad 9), .ref (ad 10), .ref (ad 11), .int ocn, .int ofn])), (ad 8, .inl (kT 1, 16, .inr (.inl oc))), (ad 9, .inl (kT 0, 16, .inl ofr)), (ad 10, .inl (kT 0, 16, .inl oto)), (ad 11, .inl (kT 2, 16, .inl osg)), (ad 12, .inr (3, [.ref (ad 13), .ref (ad 14), .ref (ad 15), .ref (ad 16), .int ptn, .ref (ad 17), .ref (ad 18), .ref (ad 19), .ref (ad 20), .ref (ad 21), .int pin])), (ad 13, .inl (kT 0, 200, .inl po)), (ad 14, .inl (kT 0, 200, .inl pa)), (ad 15, .inl (kT 0, 200, .inl pb)), (ad 16, .inl (kT 0, 200, .inl pt)), (ad 22, .inr (4, [.ref (ad 23), .ref (ad 24), .int kn, .int kv])), (ad 23, .inl (kT 0, 8, .inl kp)), (ad 24, .inl (kT 0, 8, .inl kl)), (ad 34, .inl (kT 0, 9, .inl cn))]) ⟨hx, hb, hml, hown, ht⟩ (c_Work_write l D kT ad rn rc rv rm bc wn wf wt wv xw xp xr xq xe xh xb y9 y3 r_70 _ h) (cwV 3 ht (zq_gV zw_244 zw_245 zw_246 zw_233 zw_247) rfl rfl rfl zh_Work_write ⟨Nat.le_of_ble_eq_true rfl, Nat.le_of_ble_eq_true rfl⟩) hE hP hD hS hA [0, 1, 2, 3, 4, 5, 19, 20, 21, 22, 23] [6, 7, 8, 9, 10, 11, 12, 13, 14, 15, 16, 17, 18, 24] 25 rfl (by decide +kernel) rfl (by decide +kernel) rfl rfl 10 rfl rfl rfl rfl hl.1 (Nat.le_of_ble_eq_true rfl) rfl zd_Work_doTransfer_362 ⟨Nat.zero_le _, Nat.zero_le _⟩ (fun w1 H locs hw hJ hS => ?_)
    obtain ⟨rv_71, rm_72, bc_73, wn_74, wf_75, wt_76, wv_77, xq_78, rfl, h⟩ := hw
    obtain ⟨hP, hD⟩ := hJ (W_Work_doTransfer kT ad rn rc rv_71 rm_72 bc_73 ocn ofn oc ofr oto osg ptn pin po pa pb pt kn kv kp kl wn_74 wf_75 wt_76 wv_77 xw xp xr xq_78 xe xh xb cn) rfl rfl rfl
    refine lv_iconst (v := 0) hx hb zd_Work_doTransfer_365 (by decide) ?_
    exact hret 0  _ H locs 366 ls ⟨rv_71, rm_72, bc_73, kn, kv, wn_74, wf_75, wt_76, wv_77, xq_78, xe, xh, xb, cn, rfl, h⟩ hP rfl hS zd_Work_doTransfer_366
  have B241 : ∀  (rv : Nat → Int64) (rm : Nat → Int32) (bc : Nat → Int32) (kn : Int32) (kv : Int32) (wn : Int32) (wf : Nat → Int32) (wt : Nat → Int32) (wv : Nat → Int64) (xq : Int32) (xe : Int32) (xh : Int32) (xb : Int32) (cn : Nat → Int32) (y3 : Int32) (y4 : Int64) (y6 : Int64) (y9 : Int32) (z0 : Int32) (H : Heap) (locs : List Loc) (ls : Array Slot), wp_Work_doTransfer_241 rn rc ocn ofn oc ofr oto osg ptn pin po pa pb pt kp kl xw xp xr rv rm bc kn kv wn wf wt wv xq xe xh xb cn y3 y4 y6 y9 z0 post → va_P D vwCl (W_Work_doTransfer kT ad rn rc rv rm bc ocn ofn oc ofr oto osg ptn pin po pa pb pt kn kv kp kl wn wf wt wv xw xp xr xq xe xh xb cn) H → va_D A (W_Work_doTransfer kT ad rn rc rv rm bc ocn ofn oc ofr oto osg ptn pin po pa pb pt kn kv kp kl wn wf wt wv xw xp xr xq xe xh xb cn) → va_S A s.heap H locs → lv_has ls 10 [(3, .int y3), (4, .long y4), (6, .long y6), (9, .int y9)] → W p l e ({ frames := 4, cells := 0, slots := 0, locals := 101 }) s m AV below meth c H locs 0 0 QQ (F0 m 241 ls [.int z0, .ref (ad 32)]) := by
    intro rv rm bc kn kv wn wf wt wv xq xe xh xb cn y3 y4 y6 y9 z0 H locs ls h hP hD hS hl
    refine lv_lload hx hb zd_Work_doTransfer_241 (lv_at hl 1 rfl) ?_
    refine lv_lload hx hb zd_Work_doTransfer_243 (lv_at hl 2 rfl) ?_
    refine lv_ladd hx hb zd_Work_doTransfer_245 ?_
    refine lv_iload_n hx hb zd_Work_doTransfer_246 rfl (lv_at hl 0 rfl) ?_
    refine lv_iload hx hb zd_Work_doTransfer_247 (lv_at hl 3 rfl) ?_
    refine zq_c_Vi (rest := []) (adl := (A_Work_doTransfer ad)) (wr := [(ad 7, .inr (2, [.ref (ad 1), .ref (ad 8), .ref (ad 9), .ref (ad 10), .ref (ad 11), .int ocn, .int ofn])), (ad 8, .inl (kT 1, 16, .inr (.inl oc))), (ad 9, .inl (kT 0, 16, .inl ofr)), (ad 10, .inl (kT 0, 16, .inl oto)), (ad 11, .inl (kT 2, 16, .inl osg)), (ad 12, .inr (3, [.ref (ad 13), .ref (ad 14), .ref (ad 15), .ref (ad 16), .int ptn, .ref (ad 17), .ref (ad 18), .ref (ad 19), .ref (ad 20), .ref (ad 21), .int pin])), (ad 13, .inl (kT 0, 200, .inl po)), (ad 14, .inl (kT 0, 200, .inl pa)), (ad 15, .inl (kT 0, 200, .inl pb)), (ad 16, .inl (kT 0, 200, .inl pt)), (ad 22, .inr (4, [.ref (ad 23), .ref (ad 24), .int kn, .int kv])), (ad 23, .inl (kT 0, 8, .inl kp)), (ad 24, .inl (kT 0, 8, .inl kl))]) ⟨hx, hb, hml, hown, ht⟩ (c_Work_load l D kT ad rn rc rv rm bc wn wf wt wv xw xp xr xq xe xh xb cn z0 (y4 + y6) y3 y9 _ h) (cwV 4 ht (zq_gV zw_289 zw_290 zw_291 zw_233 zw_292) rfl rfl rfl zh_Work_load ⟨Nat.le_of_ble_eq_true rfl, Nat.le_of_ble_eq_true rfl⟩) hE hP hD hS hA [0, 1, 2, 3, 4, 5, 19, 20, 21, 22, 23, 24] [6, 7, 8, 9, 10, 11, 12, 13, 14, 15, 16, 17, 18] 25 rfl (by decide +kernel) rfl (by decide +kernel) rfl rfl 10 rfl rfl rfl rfl hl.1 (Nat.le_of_ble_eq_true rfl) rfl zd_Work_doTransfer_249 ⟨Nat.zero_le _, Nat.zero_le _⟩ (fun r_89 w1 H locs hw hJ hS => ?_)
    obtain ⟨rv_80, rm_81, bc_82, wn_83, wf_84, wt_85, wv_86, xq_87, cn_88, rfl, h⟩ := hw
    obtain ⟨hP, hD⟩ := hJ (W_Work_doTransfer kT ad rn rc rv_80 rm_81 bc_82 ocn ofn oc ofr oto osg ptn pin po pa pb pt kn kv kp kl wn_83 wf_84 wt_85 wv_86 xw xp xr xq_87 xe xh xb cn_88) rfl rfl rfl
    exact hret r_89  _ H locs 252 ls ⟨rv_80, rm_81, bc_82, kn, kv, wn_83, wf_84, wt_85, wv_86, xq_87, xe, xh, xb, cn_88, rfl, h⟩ hP rfl hS zd_Work_doTransfer_252
  have B229 : ∀  (rv : Nat → Int64) (rm : Nat → Int32) (bc : Nat → Int32) (kn : Int32) (kv : Int32) (wn : Int32) (wf : Nat → Int32) (wt : Nat → Int32) (wv : Nat → Int64) (xq : Int32) (xe : Int32) (xh : Int32) (xb : Int32) (cn : Nat → Int32) (y2 : Int32) (y3 : Int32) (y4 : Int64) (y6 : Int64) (y9 : Int32) (H : Heap) (locs : List Loc) (ls : Array Slot), wp_Work_doTransfer_229 rn rc ocn ofn oc ofr oto osg ptn pin po pa pb pt kp kl xw xp xr rv rm bc kn kv wn wf wt wv xq xe xh xb cn y2 y3 y4 y6 y9 post → va_P D vwCl (W_Work_doTransfer kT ad rn rc rv rm bc ocn ofn oc ofr oto osg ptn pin po pa pb pt kn kv kp kl wn wf wt wv xw xp xr xq xe xh xb cn) H → va_D A (W_Work_doTransfer kT ad rn rc rv rm bc ocn ofn oc ofr oto osg ptn pin po pa pb pt kn kv kp kl wn wf wt wv xw xp xr xq xe xh xb cn) → va_S A s.heap H locs → lv_has ls 10 [(0, .ref (ad 32)), (2, .int y2), (3, .int y3), (4, .long y4), (6, .long y6), (9, .int y9)] → W p l e ({ frames := 4, cells := 0, slots := 0, locals := 101 }) s m AV below meth c H locs 0 0 QQ (F0 m 229 ls []) := by
    intro rv rm bc kn kv wn wf wt wv xq xe xh xb cn y2 y3 y4 y6 y9 H locs ls h hP hD hS hl
    refine lv_aload_n hx hb zd_Work_doTransfer_229 rfl (lv_at hl 0 rfl) ?_
    refine lv_iload_n hx hb zd_Work_doTransfer_230 rfl (lv_at hl 1 rfl) ?_
    refine lv_bipush (v := 14) hx hb zd_Work_doTransfer_231 (by decide) ?_
    refine lv_icmp_ne (tgt := 240) hx hb zd_Work_doTransfer_233 (by decide) (fun c_39 => ?_) (fun c_39 => ?_)
    · have h := zq_if c_39 h
      refine lv_iconst (v := 0) hx hb zd_Work_doTransfer_240 (by decide) ?_
      exact B241 rv rm bc kn kv wn wf wt wv xq xe xh xb cn y3 y4 y6 y9 0 H locs ls h hP hD hS (lv_sub hl [2, 3, 4, 5] rfl)
    · have h := zq_it c_39 h
      refine lv_iconst (v := 1) hx hb zd_Work_doTransfer_236 (by decide) ?_
      refine lv_goto (tgt := 241) hx hb zd_Work_doTransfer_237 (by decide) ?_
      exact B241 rv rm bc kn kv wn wf wt wv xq xe xh xb cn y3 y4 y6 y9 1 H locs ls h hP hD hS (lv_sub hl [2, 3, 4, 5] rfl)
  have B253 : ∀  (rv : Nat → Int64) (rm : Nat → Int32) (bc : Nat → Int32) (kn : Int32) (kv : Int32) (wn : Int32) (wf : Nat → Int32) (wt : Nat → Int32) (wv : Nat → Int64) (xq : Int32) (xe : Int32) (xh : Int32) (xb : Int32) (cn : Nat → Int32) (y2 : Int32) (y4 : Int64) (y6 : Int64) (H : Heap) (locs : List Loc) (ls : Array Slot), wp_Work_doTransfer_253 rn rc ocn ofn oc ofr oto osg ptn pin po pa pb pt kp kl xw xp xr rv rm bc kn kv wn wf wt wv xq xe xh xb cn y2 y4 y6 post → va_P D vwCl (W_Work_doTransfer kT ad rn rc rv rm bc ocn ofn oc ofr oto osg ptn pin po pa pb pt kn kv kp kl wn wf wt wv xw xp xr xq xe xh xb cn) H → va_D A (W_Work_doTransfer kT ad rn rc rv rm bc ocn ofn oc ofr oto osg ptn pin po pa pb pt kn kv kp kl wn wf wt wv xw xp xr xq xe xh xb cn) → va_S A s.heap H locs → lv_has ls 10 [(0, .ref (ad 32)), (2, .int y2), (4, .long y4), (6, .long y6)] → W p l e ({ frames := 4, cells := 0, slots := 0, locals := 101 }) s m AV below meth c H locs 0 0 QQ (F0 m 253 ls []) := by
    intro rv rm bc kn kv wn wf wt wv xq xe xh xb cn y2 y4 y6 H locs ls h hP hD hS hl
    refine lv_aload_n hx hb zd_Work_doTransfer_253 rfl (lv_at hl 0 rfl) ?_
    refine lv_iload_n hx hb zd_Work_doTransfer_254 rfl (lv_at hl 1 rfl) ?_
    refine lv_bipush (v := 16) hx hb zd_Work_doTransfer_255 (by decide) ?_
    refine lv_icmp_ne (tgt := 264) hx hb zd_Work_doTransfer_257 (by decide) (fun c_49 => ?_) (fun c_49 => ?_)
    · have h := zq_if c_49 h
      refine lv_iconst (v := 0) hx hb zd_Work_doTransfer_264 (by decide) ?_
      refine lv_lload hx hb zd_Work_doTransfer_265 (lv_at hl 2 rfl) ?_
      refine lv_lload hx hb zd_Work_doTransfer_267 (lv_at hl 3 rfl) ?_
      refine zq_c_Vi (rest := []) (adl := (A_Work_doTransfer ad)) (wr := [(ad 7, .inr (2, [.ref (ad 1), .ref (ad 8), .ref (ad 9), .ref (ad 10), .ref (ad 11), .int ocn, .int ofn])), (ad 8, .inl (kT 1, 16, .inr (.inl oc))), (ad 9, .inl (kT 0, 16, .inl ofr)), (ad 10, .inl (kT 0, 16, .inl oto)), (ad 11, .inl (kT 2, 16, .inl osg)), (ad 12, .inr (3, [.ref (ad 13), .ref (ad 14), .ref (ad 15), .ref (ad 16), .int ptn, .ref (ad 17), .ref (ad 18), .ref (ad 19), .ref (ad 20), .ref (ad 21), .int pin])), (ad 13, .inl (kT 0, 200, .inl po)), (ad 14, .inl (kT 0, 200, .inl pa)), (ad 15, .inl (kT 0, 200, .inl pb)), (ad 16, .inl (kT 0, 200, .inl pt)), (ad 22, .inr (4, [.ref (ad 23), .ref (ad 24), .int kn, .int kv])), (ad 23, .inl (kT 0, 8, .inl kp)), (ad 24, .inl (kT 0, 8, .inl kl))]) ⟨hx, hb, hml, hown, ht⟩ (c_Work_store l D kT ad rn rc rv rm bc wn wf wt wv xw xp xr xq xe xh xb cn 0 y4 y6 _ h) (cwV 3 ht (zq_gV zw_282 zw_283 zw_284 zw_233 zw_285) rfl rfl rfl zh_Work_store ⟨Nat.le_of_ble_eq_true rfl, Nat.le_of_ble_eq_true rfl⟩) hE hP hD hS hA [0, 1, 2, 3, 4, 5, 19, 20, 21, 22, 23, 24] [6, 7, 8, 9, 10, 11, 12, 13, 14, 15, 16, 17, 18] 25 rfl (by decide +kernel) rfl (by decide +kernel) rfl rfl 10 rfl rfl rfl rfl hl.1 (Nat.le_of_ble_eq_true rfl) rfl zd_Work_doTransfer_269 ⟨Nat.zero_le _, Nat.zero_le _⟩ (fun r_59 w1 H locs hw hJ hS => ?_)
      obtain ⟨rv_50, rm_51, bc_52, wn_53, wf_54, wt_55, wv_56, xq_57, cn_58, rfl, h⟩ := hw
      obtain ⟨hP, hD⟩ := hJ (W_Work_doTransfer kT ad rn rc rv_50 rm_51 bc_52 ocn ofn oc ofr oto osg ptn pin po pa pb pt kn kv kp kl wn_53 wf_54 wt_55 wv_56 xw xp xr xq_57 xe xh xb cn_58) rfl rfl rfl
      exact hret r_59  _ H locs 272 ls ⟨rv_50, rm_51, bc_52, kn, kv, wn_53, wf_54, wt_55, wv_56, xq_57, xe, xh, xb, cn_58, rfl, h⟩ hP rfl hS zd_Work_doTransfer_272
    · have h := zq_it c_49 h
      refine lv_iconst (v := 1) hx hb zd_Work_doTransfer_260 (by decide) ?_
      refine lv_goto (tgt := 265) hx hb zd_Work_doTransfer_261 (by decide) ?_
      refine lv_lload hx hb zd_Work_doTransfer_265 (lv_at hl 2 rfl) ?_
      refine lv_lload hx hb zd_Work_doTransfer_267 (lv_at hl 3 rfl) ?_
      refine zq_c_Vi (rest := []) (adl := (A_Work_doTransfer ad)) (wr := [(ad 7, .inr (2, [.ref (ad 1), .ref (ad 8), .ref (ad 9), .ref (ad 10), .ref (ad 11), .int ocn, .int ofn])), (ad 8, .inl (kT 1, 16, .inr (.inl oc))), (ad 9, .inl (kT 0, 16, .inl ofr)), (ad 10, .inl (kT 0, 16, .inl oto)), (ad 11, .inl (kT 2, 16, .inl osg)), (ad 12, .inr (3, [.ref (ad 13), .ref (ad 14), .ref (ad 15), .ref (ad 16), .int ptn, .ref (ad 17), .ref (ad 18), .ref (ad 19), .ref (ad 20), .ref (ad 21), .int pin])), (ad 13, .inl (kT 0, 200, .inl po)), (ad 14, .inl (kT 0, 200, .inl pa)), (ad 15, .inl (kT 0, 200, .inl pb)), (ad 16, .inl (kT 0, 200, .inl pt)), (ad 22, .inr (4, [.ref (ad 23), .ref (ad 24), .int kn, .int kv])), (ad 23, .inl (kT 0, 8, .inl kp)), (ad 24, .inl (kT 0, 8, .inl kl))]) ⟨hx, hb, hml, hown, ht⟩ (c_Work_store l D kT ad rn rc rv rm bc wn wf wt wv xw xp xr xq xe xh xb cn 1 y4 y6 _ h) (cwV 3 ht (zq_gV zw_282 zw_283 zw_284 zw_233 zw_285) rfl rfl rfl zh_Work_store ⟨Nat.le_of_ble_eq_true rfl, Nat.le_of_ble_eq_true rfl⟩) hE hP hD hS hA [0, 1, 2, 3, 4, 5, 19, 20, 21, 22, 23, 24] [6, 7, 8, 9, 10, 11, 12, 13, 14, 15, 16, 17, 18] 25 rfl (by decide +kernel) rfl (by decide +kernel) rfl rfl 10 rfl rfl rfl rfl hl.1 (Nat.le_of_ble_eq_true rfl) rfl zd_Work_doTransfer_269 ⟨Nat.zero_le _, Nat.zero_le _⟩ (fun r_69 w1 H locs hw hJ hS => ?_)
      obtain ⟨rv_60, rm_61, bc_62, wn_63, wf_64, wt_65, wv_66, xq_67, cn_68, rfl, h⟩ := hw
      obtain ⟨hP, hD⟩ := hJ (W_Work_doTransfer kT ad rn rc rv_60 rm_61 bc_62 ocn ofn oc ofr oto osg ptn pin po pa pb pt kn kv kp kl wn_63 wf_64 wt_65 wv_66 xw xp xr xq_67 xe xh xb cn_68) rfl rfl rfl
      exact hret r_69  _ H locs 272 ls ⟨rv_60, rm_61, bc_62, kn, kv, wn_63, wf_64, wt_65, wv_66, xq_67, xe, xh, xb, cn_68, rfl, h⟩ hP rfl hS zd_Work_doTransfer_272
  have B123 : ∀  (rv : Nat → Int64) (rm : Nat → Int32) (bc : Nat → Int32) (kn : Int32) (kv : Int32) (wn : Int32) (wf : Nat → Int32) (wt : Nat → Int32) (wv : Nat → Int64) (xq : Int32) (xe : Int32) (xh : Int32) (xb : Int32) (cn : Nat → Int32) (y2 : Int32) (y3 : Int32) (y4 : Int64) (y6 : Int64) (z0 : Int32) (H : Heap) (locs : List Loc) (ls : Array Slot), wp_Work_doTransfer_123 rn rc ocn ofn oc ofr oto osg ptn pin po pa pb pt kp kl xw xp xr rv rm bc kn kv wn wf wt wv xq xe xh xb cn y2 y3 y4 y6 z0 post → va_P D vwCl (W_Work_doTransfer kT ad rn rc rv rm bc ocn ofn oc ofr oto osg ptn pin po pa pb pt kn kv kp kl wn wf wt wv xw xp xr xq xe xh xb cn) H → va_D A (W_Work_doTransfer kT ad rn rc rv rm bc ocn ofn oc ofr oto osg ptn pin po pa pb pt kn kv kp kl wn wf wt wv xw xp xr xq xe xh xb cn) → va_S A s.heap H locs → lv_has ls 10 [(0, .ref (ad 32)), (2, .int y2), (3, .int y3), (4, .long y4), (6, .long y6)] → W p l e ({ frames := 4, cells := 0, slots := 0, locals := 101 }) s m AV below meth c H locs 0 0 QQ (F0 m 123 ls [.int z0]) := by
    intro rv rm bc kn kv wn wf wt wv xq xe xh xb cn y2 y3 y4 y6 z0 H locs ls h hP hD hS hl
    refine lv_istore (lv' := [(9, .int z0), (0, .ref (ad 32)), (2, .int y2), (3, .int y3), (4, .long y4), (6, .long y6)]) hx hb zd_Work_doTransfer_123 hl (by decide) rfl (fun ls hl => ?_)
    refine lv_iload_n hx hb zd_Work_doTransfer_125 rfl (lv_at hl 2 rfl) ?_
    by_cases k0 : y2 = 4
    · have h := zq_it k0 h
      refine lv_tableIn (off := 90) (tgt := 216) hx hb zd_Work_doTransfer_126 (by rw [k0]; decide) (by rw [k0]; decide) (by rw [k0]; rfl) (by decide) ?_
      exact B216 rv rm bc kn kv wn wf wt wv xq xe xh xb cn y2 y3 y4 y6 z0 H locs ls h hP hD hS (lv_sub hl [1, 2, 3, 4, 5, 0] rfl)
    · have h := zq_if k0 h
      by_cases k1 : y2 = 5
      · have h := zq_it k1 h
        refine lv_tableIn (off := 90) (tgt := 216) hx hb zd_Work_doTransfer_126 (by rw [k1]; decide) (by rw [k1]; decide) (by rw [k1]; rfl) (by decide) ?_
        exact B216 rv rm bc kn kv wn wf wt wv xq xe xh xb cn y2 y3 y4 y6 z0 H locs ls h hP hD hS (lv_sub hl [1, 2, 3, 4, 5, 0] rfl)
      · have h := zq_if k1 h
        by_cases k2 : y2 = 6
        · have h := zq_it k2 h
          refine lv_tableIn (off := 224) (tgt := 350) hx hb zd_Work_doTransfer_126 (by rw [k2]; decide) (by rw [k2]; decide) (by rw [k2]; rfl) (by decide) ?_
          exact B350 rv rm bc kn kv wn wf wt wv xq xe xh xb cn y2 y3 y4 y6 z0 H locs ls h hP hD hS (lv_sub hl [1, 2, 3, 4, 5, 0] rfl)
        · have h := zq_if k2 h
          by_cases k3 : y2 = 7
          · have h := zq_it k3 h
            refine lv_tableIn (off := 224) (tgt := 350) hx hb zd_Work_doTransfer_126 (by rw [k3]; decide) (by rw [k3]; decide) (by rw [k3]; rfl) (by decide) ?_
            exact B350 rv rm bc kn kv wn wf wt wv xq xe xh xb cn y2 y3 y4 y6 z0 H locs ls h hP hD hS (lv_sub hl [1, 2, 3, 4, 5, 0] rfl)
          · have h := zq_if k3 h
            by_cases k4 : y2 = 8
            · have h := zq_it k4 h
              refine lv_tableIn (off := 224) (tgt := 350) hx hb zd_Work_doTransfer_126 (by rw [k4]; decide) (by rw [k4]; decide) (by rw [k4]; rfl) (by decide) ?_
              exact B350 rv rm bc kn kv wn wf wt wv xq xe xh xb cn y2 y3 y4 y6 z0 H locs ls h hP hD hS (lv_sub hl [1, 2, 3, 4, 5, 0] rfl)
            · have h := zq_if k4 h
              by_cases k5 : y2 = 9
              · have h := zq_it k5 h
                refine lv_tableIn (off := 224) (tgt := 350) hx hb zd_Work_doTransfer_126 (by rw [k5]; decide) (by rw [k5]; decide) (by rw [k5]; rfl) (by decide) ?_
                exact B350 rv rm bc kn kv wn wf wt wv xq xe xh xb cn y2 y3 y4 y6 z0 H locs ls h hP hD hS (lv_sub hl [1, 2, 3, 4, 5, 0] rfl)
              · have h := zq_if k5 h
                by_cases k6 : y2 = 10
                · have h := zq_it k6 h
                  refine lv_tableIn (off := 224) (tgt := 350) hx hb zd_Work_doTransfer_126 (by rw [k6]; decide) (by rw [k6]; decide) (by rw [k6]; rfl) (by decide) ?_
                  exact B350 rv rm bc kn kv wn wf wt wv xq xe xh xb cn y2 y3 y4 y6 z0 H locs ls h hP hD hS (lv_sub hl [1, 2, 3, 4, 5, 0] rfl)
                · have h := zq_if k6 h
                  by_cases k7 : y2 = 11
                  · have h := zq_it k7 h
                    refine lv_tableIn (off := 224) (tgt := 350) hx hb zd_Work_doTransfer_126 (by rw [k7]; decide) (by rw [k7]; decide) (by rw [k7]; rfl) (by decide) ?_
                    exact B350 rv rm bc kn kv wn wf wt wv xq xe xh xb cn y2 y3 y4 y6 z0 H locs ls h hP hD hS (lv_sub hl [1, 2, 3, 4, 5, 0] rfl)
                  · have h := zq_if k7 h
                    by_cases k8 : y2 = 12
                    · have h := zq_it k8 h
                      refine lv_tableIn (off := 224) (tgt := 350) hx hb zd_Work_doTransfer_126 (by rw [k8]; decide) (by rw [k8]; decide) (by rw [k8]; rfl) (by decide) ?_
                      exact B350 rv rm bc kn kv wn wf wt wv xq xe xh xb cn y2 y3 y4 y6 z0 H locs ls h hP hD hS (lv_sub hl [1, 2, 3, 4, 5, 0] rfl)
                    · have h := zq_if k8 h
                      by_cases k9 : y2 = 13
                      · have h := zq_it k9 h
                        refine lv_tableIn (off := 103) (tgt := 229) hx hb zd_Work_doTransfer_126 (by rw [k9]; decide) (by rw [k9]; decide) (by rw [k9]; rfl) (by decide) ?_
                        exact B229 rv rm bc kn kv wn wf wt wv xq xe xh xb cn y2 y3 y4 y6 z0 H locs ls h hP hD hS (lv_sub hl [1, 2, 3, 4, 5, 0] rfl)
                      · have h := zq_if k9 h
                        by_cases k10 : y2 = 14
                        · have h := zq_it k10 h
                          refine lv_tableIn (off := 103) (tgt := 229) hx hb zd_Work_doTransfer_126 (by rw [k10]; decide) (by rw [k10]; decide) (by rw [k10]; rfl) (by decide) ?_
                          exact B229 rv rm bc kn kv wn wf wt wv xq xe xh xb cn y2 y3 y4 y6 z0 H locs ls h hP hD hS (lv_sub hl [1, 2, 3, 4, 5, 0] rfl)
                        · have h := zq_if k10 h
                          by_cases k11 : y2 = 15
                          · have h := zq_it k11 h
                            refine lv_tableIn (off := 127) (tgt := 253) hx hb zd_Work_doTransfer_126 (by rw [k11]; decide) (by rw [k11]; decide) (by rw [k11]; rfl) (by decide) ?_
                            exact B253 rv rm bc kn kv wn wf wt wv xq xe xh xb cn y2 y4 y6 H locs ls h hP hD hS (lv_sub hl [1, 2, 4, 5] rfl)
                          · have h := zq_if k11 h
                            by_cases k12 : y2 = 16
                            · have h := zq_it k12 h
                              refine lv_tableIn (off := 127) (tgt := 253) hx hb zd_Work_doTransfer_126 (by rw [k12]; decide) (by rw [k12]; decide) (by rw [k12]; rfl) (by decide) ?_
                              exact B253 rv rm bc kn kv wn wf wt wv xq xe xh xb cn y2 y4 y6 H locs ls h hP hD hS (lv_sub hl [1, 2, 4, 5] rfl)
                            · have h := zq_if k12 h
                              by_cases k13 : y2 = 17
                              · have h := zq_it k13 h
                                refine lv_tableIn (off := 147) (tgt := 273) hx hb zd_Work_doTransfer_126 (by rw [k13]; decide) (by rw [k13]; decide) (by rw [k13]; rfl) (by decide) ?_
                                refine lv_aload_n hx hb zd_Work_doTransfer_273 rfl (lv_at hl 1 rfl) ?_
                                refine lv_lload hx hb zd_Work_doTransfer_274 (lv_at hl 4 rfl) ?_
                                refine lv_lconst (v := 0) hx hb zd_Work_doTransfer_276 (by decide) ?_
                                refine W.lcmp hx hb zd_Work_doTransfer_277 ?_
                                refine lv_if_ne (tgt := 285) hx hb zd_Work_doTransfer_278 (by decide) (fun c_15 => ?_) (fun c_15 => ?_)
                                · have h := zq_if (fun z => c_15 (zq_lc_eq.mpr z)) h
                                  refine lv_iconst (v := 0) hx hb zd_Work_doTransfer_285 (by decide) ?_
                                  refine va_put (D := D) (ci := 7) (v := .int 0) (ty := .boolean) (C := zR_Work) (T := zF_Work) (N := 14) hx hb ht zi_Work zt_Work zt_Work_ok zn_Work hown hK hP hD hS 23 rfl rfl 11 (by decide) (ht _ zw_222) (fun _ h9 => h9) rfl (by decide +kernel) rfl rfl (Nat.le_of_ble_eq_true rfl) zd_Work_doTransfer_286 (fun H locs hP hD hS => ?_)
                                  have hP : va_P D vwCl (W_Work_doTransfer kT ad rn rc rv rm bc ocn ofn oc ofr oto osg ptn pin po pa pb pt kn kv kp kl wn wf wt wv xw xp xr xq 0 xh xb cn) H := hP
                                  have hD : va_D A (W_Work_doTransfer kT ad rn rc rv rm bc ocn ofn oc ofr oto osg ptn pin po pa pb pt kn kv kp kl wn wf wt wv xw xp xr xq 0 xh xb cn) := hD
                                  refine lv_iconst (v := 0) hx hb zd_Work_doTransfer_289 (by decide) ?_
                                  exact hret 0  _ H locs 290 ls ⟨rv, rm, bc, kn, kv, wn, wf, wt, wv, xq, 0, xh, xb, cn, rfl, h⟩ hP rfl hS zd_Work_doTransfer_290
                                · have h := zq_it (zq_lc_eq.mp c_15) h
                                  refine lv_iconst (v := 1) hx hb zd_Work_doTransfer_281 (by decide) ?_
                                  refine lv_goto (tgt := 286) hx hb zd_Work_doTransfer_282 (by decide) ?_
                                  refine va_put (D := D) (ci := 7) (v := .int 1) (ty := .boolean) (C := zR_Work) (T := zF_Work) (N := 14) hx hb ht zi_Work zt_Work zt_Work_ok zn_Work hown hK hP hD hS 23 rfl rfl 11 (by decide) (ht _ zw_222) (fun _ h9 => h9) rfl (by decide +kernel) rfl rfl (Nat.le_of_ble_eq_true rfl) zd_Work_doTransfer_286 (fun H locs hP hD hS => ?_)
                                  have hP : va_P D vwCl (W_Work_doTransfer kT ad rn rc rv rm bc ocn ofn oc ofr oto osg ptn pin po pa pb pt kn kv kp kl wn wf wt wv xw xp xr xq 1 xh xb cn) H := hP
                                  have hD : va_D A (W_Work_doTransfer kT ad rn rc rv rm bc ocn ofn oc ofr oto osg ptn pin po pa pb pt kn kv kp kl wn wf wt wv xw xp xr xq 1 xh xb cn) := hD
                                  refine lv_iconst (v := 0) hx hb zd_Work_doTransfer_289 (by decide) ?_
                                  exact hret 0  _ H locs 290 ls ⟨rv, rm, bc, kn, kv, wn, wf, wt, wv, xq, 1, xh, xb, cn, rfl, h⟩ hP rfl hS zd_Work_doTransfer_290
                              · have h := zq_if k13 h
                                by_cases k14 : y2 = 18
                                · have h := zq_it k14 h
                                  refine lv_tableIn (off := 165) (tgt := 291) hx hb zd_Work_doTransfer_126 (by rw [k14]; decide) (by rw [k14]; decide) (by rw [k14]; rfl) (by decide) ?_
                                  refine lv_lload hx hb zd_Work_doTransfer_291 (lv_at hl 5 rfl) ?_
                                  refine lv_lconst (v := 0) hx hb zd_Work_doTransfer_293 (by decide) ?_
                                  refine W.lcmp hx hb zd_Work_doTransfer_294 ?_
                                  refine lv_if_ne (tgt := 302) hx hb zd_Work_doTransfer_295 (by decide) (fun c_16 => ?_) (fun c_16 => ?_)
                                  · have h := zq_if (fun z => c_16 (zq_lc_eq.mpr z)) h
                                    refine lv_bipush (v := 8) hx hb zd_Work_doTransfer_302 (by decide) ?_
                                    refine lv_lload hx hb zd_Work_doTransfer_304 (lv_at hl 4 rfl) ?_
                                    refine W.ldc2 (v := 7) hx hb hown (ht _ zw_273) rfl zd_Work_doTransfer_306 ?_
                                    refine W.eq (g2 := F0 m 309 ls [.long 7, .long y4, .int 8]) rfl ?_
                                    refine lv_land hx hb zd_Work_doTransfer_309 ?_
                                    refine lv_l2i (v := (zq_j_l2i (y4 &&& 7))) hx hb zd_Work_doTransfer_310 rfl ?_
                                    refine lv_iadd hx hb zd_Work_doTransfer_311 ?_
                                    exact hret (8 + (zq_j_l2i (y4 &&& 7)))  _ H locs 312 ls ⟨rv, rm, bc, kn, kv, wn, wf, wt, wv, xq, xe, xh, xb, cn, rfl, h⟩ hP rfl hS zd_Work_doTransfer_312
                                  · have h := zq_it (zq_lc_eq.mp c_16) h
                                    refine lv_iconst (v := 0) hx hb zd_Work_doTransfer_298 (by decide) ?_
                                    refine lv_goto (tgt := 312) hx hb zd_Work_doTransfer_299 (by decide) ?_
                                    exact hret 0  _ H locs 312 ls ⟨rv, rm, bc, kn, kv, wn, wf, wt, wv, xq, xe, xh, xb, cn, rfl, h⟩ hP rfl hS zd_Work_doTransfer_312
                                · have h := zq_if k14 h
                                  by_cases k15 : y2 = 19
                                  · have h := zq_it k15 h
                                    refine lv_tableIn (off := 187) (tgt := 313) hx hb zd_Work_doTransfer_126 (by rw [k15]; decide) (by rw [k15]; decide) (by rw [k15]; rfl) (by decide) ?_
                                    refine lv_aload_n hx hb zd_Work_doTransfer_313 rfl (lv_at hl 1 rfl) ?_
                                    refine lv_iconst (v := 2) hx hb zd_Work_doTransfer_314 (by decide) ?_
                                    refine lv_iload_n hx hb zd_Work_doTransfer_315 rfl (lv_at hl 3 rfl) ?_
                                    refine lv_lconst (v := 0) hx hb zd_Work_doTransfer_316 (by decide) ?_
                                    refine zq_c_Vv (rest := []) (adl := (A_Work_doTransfer ad)) (wr := [(ad 7, .inr (2, [.ref (ad 1), .ref (ad 8), .ref (ad 9), .ref (ad 10), .ref (ad 11), .int ocn, .int ofn])), (ad 8, .inl (kT 1, 16, .inr (.inl oc))), (ad 9, .inl (kT 0, 16, .inl ofr)), (ad 10, .inl (kT 0, 16, .inl oto)), (ad 11, .inl (kT 2, 16, .inl osg)), (ad 12, .inr (3, [.ref (ad 13), .ref (ad 14), .ref (ad 15), .ref (ad 16), .int ptn, .ref (ad 17), .ref (ad 18), .ref (ad 19), .ref (ad 20), .ref (ad 21), .int pin])), (ad 13, .inl (kT 0, 200, .inl po)), (ad 14, .inl (kT 0, 200, .inl pa)), (ad 15, .inl (kT 0, 200, .inl pb)), (ad 16, .inl (kT 0, 200, .inl pt)), (ad 22, .inr (4, [.ref (ad 23), .ref (ad 24), .int kn, .int kv])), (ad 23, .inl (kT 0, 8, .inl kp)), (ad 24, .inl (kT 0, 8, .inl kl)), (ad 34, .inl (kT 0, 9, .inl cn))]) ⟨hx, hb, hml, hown, ht⟩ (c_Work_write l D kT ad rn rc rv rm bc wn wf wt wv xw xp xr xq xe xh xb 2 y3 0 _ h) (cwV 3 ht (zq_gV zw_244 zw_245 zw_246 zw_233 zw_247) rfl rfl rfl zh_Work_write ⟨Nat.le_of_ble_eq_true rfl, Nat.le_of_ble_eq_true rfl⟩) hE hP hD hS hA [0, 1, 2, 3, 4, 5, 19, 20, 21, 22, 23] [6, 7, 8, 9, 10, 11, 12, 13, 14, 15, 16, 17, 18, 24] 25 rfl (by decide +kernel) rfl (by decide +kernel) rfl rfl 10 rfl rfl rfl rfl hl.1 (Nat.le_of_ble_eq_true rfl) rfl zd_Work_doTransfer_317 ⟨Nat.zero_le _, Nat.zero_le _⟩ (fun w1 H locs hw hJ hS => ?_)
                                    obtain ⟨rv_17, rm_18, bc_19, wn_20, wf_21, wt_22, wv_23, xq_24, rfl, h⟩ := hw
                                    obtain ⟨hP, hD⟩ := hJ (W_Work_doTransfer kT ad rn rc rv_17 rm_18 bc_19 ocn ofn oc ofr oto osg ptn pin po pa pb pt kn kv kp kl wn_20 wf_21 wt_22 wv_23 xw xp xr xq_24 xe xh xb cn) rfl rfl rfl
                                    refine lv_iconst (v := 0) hx hb zd_Work_doTransfer_320 (by decide) ?_
                                    exact hret 0  _ H locs 321 ls ⟨rv_17, rm_18, bc_19, kn, kv, wn_20, wf_21, wt_22, wv_23, xq_24, xe, xh, xb, cn, rfl, h⟩ hP rfl hS zd_Work_doTransfer_321
                                  · have h := zq_if k15 h
                                    by_cases k16 : y2 = 20
                                    · have h := zq_it k16 h
                                      refine lv_tableIn (off := 196) (tgt := 322) hx hb zd_Work_doTransfer_126 (by rw [k16]; decide) (by rw [k16]; decide) (by rw [k16]; rfl) (by decide) ?_
                                      refine lv_aload_n hx hb zd_Work_doTransfer_322 rfl (lv_at hl 1 rfl) ?_
                                      refine va_get (D := D) (ci := 7) (v := .ref (ad 22)) (C := zR_Work) (T := zF_Work) (N := 14) hx hb ht zi_Work hown hK hP 23 rfl rfl 4 (by decide) (ht _ zw_257) (fun _ h9 => h9) rfl zd_Work_doTransfer_323 ?_
                                      refine va_getN (D := D) (ci := 4) (v := .int kv) (C := zR_Kept) (T := zF_Kept) (N := 4) hx hb ht zi_Kept hown hK hP 16 rfl rfl 3 (by decide) (hE.nw zx_16) (fun _ h9 => h9) rfl zd_Work_doTransfer_326 ?_
                                      refine lv_if_ne (tgt := 336) hx hb zd_Work_doTransfer_329 (by decide) (fun c_26 => ?_) (fun c_26 => ?_)
                                      · have h := zq_if c_26 h
                                        refine lv_iconst (v := 0) hx hb zd_Work_doTransfer_336 (by decide) ?_
                                        exact hret 0  _ H locs 337 ls ⟨rv, rm, bc, kn, kv, wn, wf, wt, wv, xq, xe, xh, xb, cn, rfl, h⟩ hP rfl hS zd_Work_doTransfer_337
                                      · have h := zq_it c_26 h
                                        refine lv_iconst (v := 5) hx hb zd_Work_doTransfer_332 (by decide) ?_
                                        refine lv_goto (tgt := 337) hx hb zd_Work_doTransfer_333 (by decide) ?_
                                        exact hret 5  _ H locs 337 ls ⟨rv, rm, bc, kn, kv, wn, wf, wt, wv, xq, xe, xh, xb, cn, rfl, h⟩ hP rfl hS zd_Work_doTransfer_337
                                    · have h := zq_if k16 h
                                      by_cases k17 : y2 = 21
                                      · have h := zq_it k17 h
                                        refine lv_tableIn (off := 212) (tgt := 338) hx hb zd_Work_doTransfer_126 (by rw [k17]; decide) (by rw [k17]; decide) (by rw [k17]; rfl) (by decide) ?_
                                        refine lv_aload_n hx hb zd_Work_doTransfer_338 rfl (lv_at hl 1 rfl) ?_
                                        refine lv_iconst (v := 1) hx hb zd_Work_doTransfer_339 (by decide) ?_
                                        refine va_put (D := D) (ci := 7) (v := .int 1) (ty := .boolean) (C := zR_Work) (T := zF_Work) (N := 14) hx hb ht zi_Work zt_Work zt_Work_ok zn_Work hown hK hP hD hS 23 rfl rfl 12 (by decide) (ht _ zw_223) (fun _ h9 => h9) rfl (by decide +kernel) rfl rfl (Nat.le_of_ble_eq_true rfl) zd_Work_doTransfer_340 (fun H locs hP hD hS => ?_)
                                        have hP : va_P D vwCl (W_Work_doTransfer kT ad rn rc rv rm bc ocn ofn oc ofr oto osg ptn pin po pa pb pt kn kv kp kl wn wf wt wv xw xp xr xq xe 1 xb cn) H := hP
                                        have hD : va_D A (W_Work_doTransfer kT ad rn rc rv rm bc ocn ofn oc ofr oto osg ptn pin po pa pb pt kn kv kp kl wn wf wt wv xw xp xr xq xe 1 xb cn) := hD
                                        refine lv_iconst (v := 0) hx hb zd_Work_doTransfer_343 (by decide) ?_
                                        exact hret 0  _ H locs 344 ls ⟨rv, rm, bc, kn, kv, wn, wf, wt, wv, xq, xe, 1, xb, cn, rfl, h⟩ hP rfl hS zd_Work_doTransfer_344
                                      · have h := zq_if k17 h
                                        by_cases k18 : y2 = 22
                                        · have h := zq_it k18 h
                                          refine lv_tableIn (off := 219) (tgt := 345) hx hb zd_Work_doTransfer_126 (by rw [k18]; decide) (by rw [k18]; decide) (by rw [k18]; rfl) (by decide) ?_
                                          refine lv_aload_n hx hb zd_Work_doTransfer_345 rfl (lv_at hl 1 rfl) ?_
                                          refine zq_c_Vi (rest := []) (adl := (A_Work_doTransfer ad)) (wr := [(ad 7, .inr (2, [.ref (ad 1), .ref (ad 8), .ref (ad 9), .ref (ad 10), .ref (ad 11), .int ocn, .int ofn])), (ad 8, .inl (kT 1, 16, .inr (.inl oc))), (ad 9, .inl (kT 0, 16, .inl ofr)), (ad 10, .inl (kT 0, 16, .inl oto)), (ad 11, .inl (kT 2, 16, .inl osg)), (ad 12, .inr (3, [.ref (ad 13), .ref (ad 14), .ref (ad 15), .ref (ad 16), .int ptn, .ref (ad 17), .ref (ad 18), .ref (ad 19), .ref (ad 20), .ref (ad 21), .int pin])), (ad 13, .inl (kT 0, 200, .inl po)), (ad 14, .inl (kT 0, 200, .inl pa)), (ad 15, .inl (kT 0, 200, .inl pb)), (ad 16, .inl (kT 0, 200, .inl pt)), (ad 34, .inl (kT 0, 9, .inl cn))]) ⟨hx, hb, hml, hown, ht⟩ (c_Work_goBack l D kT ad rn rc rv rm bc kn kv kp kl wn wf wt wv xw xp xr xq xe xh xb _ h) (cwV 0 ht (zq_gV zw_274 zw_275 zw_276 zw_233 zw_277) rfl rfl rfl zh_Work_goBack ⟨Nat.le_of_ble_eq_true rfl, Nat.le_of_ble_eq_true rfl⟩) hE hP hD hS hA [0, 1, 2, 3, 4, 5, 16, 17, 18, 19, 20, 21, 22, 23] [6, 7, 8, 9, 10, 11, 12, 13, 14, 15, 24] 25 rfl (by decide +kernel) rfl (by decide +kernel) rfl rfl 13 rfl rfl rfl rfl hl.1 (Nat.le_of_ble_eq_true rfl) rfl zd_Work_doTransfer_346 ⟨Nat.zero_le _, Nat.zero_le _⟩ (fun r_38 w1 H locs hw hJ hS => ?_)
                                          obtain ⟨rv_27, rm_28, bc_29, kn_30, kv_31, wn_32, wf_33, wt_34, wv_35, xq_36, xb_37, rfl, h⟩ := hw
                                          obtain ⟨hP, hD⟩ := hJ (W_Work_doTransfer kT ad rn rc rv_27 rm_28 bc_29 ocn ofn oc ofr oto osg ptn pin po pa pb pt kn_30 kv_31 kp kl wn_32 wf_33 wt_34 wv_35 xw xp xr xq_36 xe xh xb_37 cn) rfl rfl rfl
                                          exact hret r_38  _ H locs 349 ls ⟨rv_27, rm_28, bc_29, kn_30, kv_31, wn_32, wf_33, wt_34, wv_35, xq_36, xe, xh, xb_37, cn, rfl, h⟩ hP rfl hS zd_Work_doTransfer_349
                                        · have h := zq_if k18 h
                                          refine lv_tableOut (tgt := 350) hx hb zd_Work_doTransfer_126 (by have q0 := lv_neT k0 (a := 4) (by decide); have q1 := lv_neT k1 (a := 5) (by decide); have q2 := lv_neT k2 (a := 6) (by decide); have q3 := lv_neT k3 (a := 7) (by decide); have q4 := lv_neT k4 (a := 8) (by decide); have q5 := lv_neT k5 (a := 9) (by decide); have q6 := lv_neT k6 (a := 10) (by decide); have q7 := lv_neT k7 (a := 11) (by decide); have q8 := lv_neT k8 (a := 12) (by decide); have q9 := lv_neT k9 (a := 13) (by decide); have q10 := lv_neT k10 (a := 14) (by decide); have q11 := lv_neT k11 (a := 15) (by decide); have q12 := lv_neT k12 (a := 16) (by decide); have q13 := lv_neT k13 (a := 17) (by decide); have q14 := lv_neT k14 (a := 18) (by decide); have q15 := lv_neT k15 (a := 19) (by decide); have q16 := lv_neT k16 (a := 20) (by decide); have q17 := lv_neT k17 (a := 21) (by decide); have q18 := lv_neT k18 (a := 22) (by decide); omega) (by decide) ?_
                                          exact B350 rv rm bc kn kv wn wf wt wv xq xe xh xb cn y2 y3 y4 y6 z0 H locs ls h hP hD hS (lv_sub hl [1, 2, 3, 4, 5, 0] rfl)
  have B111 : ∀  (rv : Nat → Int64) (rm : Nat → Int32) (bc : Nat → Int32) (kn : Int32) (kv : Int32) (wn : Int32) (wf : Nat → Int32) (wt : Nat → Int32) (wv : Nat → Int64) (xq : Int32) (xe : Int32) (xh : Int32) (xb : Int32) (cn : Nat → Int32) (y2 : Int32) (y3 : Int32) (y4 : Int64) (y6 : Int64) (z0 : Int32) (H : Heap) (locs : List Loc) (ls : Array Slot), wp_Work_doTransfer_111 rn rc ocn ofn oc ofr oto osg ptn pin po pa pb pt kp kl xw xp xr rv rm bc kn kv wn wf wt wv xq xe xh xb cn y2 y3 y4 y6 z0 post → va_P D vwCl (W_Work_doTransfer kT ad rn rc rv rm bc ocn ofn oc ofr oto osg ptn pin po pa pb pt kn kv kp kl wn wf wt wv xw xp xr xq xe xh xb cn) H → va_D A (W_Work_doTransfer kT ad rn rc rv rm bc ocn ofn oc ofr oto osg ptn pin po pa pb pt kn kv kp kl wn wf wt wv xw xp xr xq xe xh xb cn) → va_S A s.heap H locs → lv_has ls 10 [(0, .ref (ad 32)), (2, .int y2), (3, .int y3), (4, .long y4), (6, .long y6)] → W p l e ({ frames := 4, cells := 0, slots := 0, locals := 101 }) s m AV below meth c H locs 0 0 QQ (F0 m 111 ls [.int z0]) := by
    intro rv rm bc kn kv wn wf wt wv xq xe xh xb cn y2 y3 y4 y6 z0 H locs ls h hP hD hS hl
    refine lv_istore (lv' := [(8, .int z0), (0, .ref (ad 32)), (2, .int y2), (3, .int y3), (4, .long y4), (6, .long y6)]) hx hb zd_Work_doTransfer_111 hl (by decide) rfl (fun ls hl => ?_)
    refine lv_iload hx hb zd_Work_doTransfer_113 (lv_at hl 0 rfl) ?_
    refine lv_if_eq (tgt := 122) hx hb zd_Work_doTransfer_115 (by decide) (fun c_14 => ?_) (fun c_14 => ?_)
    · have h := zq_it c_14 h
      refine lv_iconst (v := 0) hx hb zd_Work_doTransfer_122 (by decide) ?_
      exact B123 rv rm bc kn kv wn wf wt wv xq xe xh xb cn y2 y3 y4 y6 0 H locs ls h hP hD hS (lv_sub hl [1, 2, 3, 4, 5] rfl)
    · have h := zq_if c_14 h
      refine lv_iconst (v := 1) hx hb zd_Work_doTransfer_118 (by decide) ?_
      refine lv_goto (tgt := 123) hx hb zd_Work_doTransfer_119 (by decide) ?_
      exact B123 rv rm bc kn kv wn wf wt wv xq xe xh xb cn y2 y3 y4 y6 1 H locs ls h hP hD hS (lv_sub hl [1, 2, 3, 4, 5] rfl)
  have B106 : ∀  (rv : Nat → Int64) (rm : Nat → Int32) (bc : Nat → Int32) (kn : Int32) (kv : Int32) (wn : Int32) (wf : Nat → Int32) (wt : Nat → Int32) (wv : Nat → Int64) (xq : Int32) (xe : Int32) (xh : Int32) (xb : Int32) (cn : Nat → Int32) (y2 : Int32) (y3 : Int32) (y4 : Int64) (y6 : Int64) (H : Heap) (locs : List Loc) (ls : Array Slot), wp_Work_doTransfer_106 rn rc ocn ofn oc ofr oto osg ptn pin po pa pb pt kp kl xw xp xr rv rm bc kn kv wn wf wt wv xq xe xh xb cn y2 y3 y4 y6 post → va_P D vwCl (W_Work_doTransfer kT ad rn rc rv rm bc ocn ofn oc ofr oto osg ptn pin po pa pb pt kn kv kp kl wn wf wt wv xw xp xr xq xe xh xb cn) H → va_D A (W_Work_doTransfer kT ad rn rc rv rm bc ocn ofn oc ofr oto osg ptn pin po pa pb pt kn kv kp kl wn wf wt wv xw xp xr xq xe xh xb cn) → va_S A s.heap H locs → lv_has ls 10 [(0, .ref (ad 32)), (2, .int y2), (3, .int y3), (4, .long y4), (6, .long y6)] → W p l e ({ frames := 4, cells := 0, slots := 0, locals := 101 }) s m AV below meth c H locs 0 0 QQ (F0 m 106 ls []) := by
    intro rv rm bc kn kv wn wf wt wv xq xe xh xb cn y2 y3 y4 y6 H locs ls h hP hD hS hl
    refine lv_iconst (v := 1) hx hb zd_Work_doTransfer_106 (by decide) ?_
    refine lv_goto (tgt := 111) hx hb zd_Work_doTransfer_107 (by decide) ?_
    exact B111 rv rm bc kn kv wn wf wt wv xq xe xh xb cn y2 y3 y4 y6 1 H locs ls h hP hD hS (lv_sub hl [0, 1, 2, 3, 4] rfl)
  have B110 : ∀  (rv : Nat → Int64) (rm : Nat → Int32) (bc : Nat → Int32) (kn : Int32) (kv : Int32) (wn : Int32) (wf : Nat → Int32) (wt : Nat → Int32) (wv : Nat → Int64) (xq : Int32) (xe : Int32) (xh : Int32) (xb : Int32) (cn : Nat → Int32) (y2 : Int32) (y3 : Int32) (y4 : Int64) (y6 : Int64) (H : Heap) (locs : List Loc) (ls : Array Slot), wp_Work_doTransfer_110 rn rc ocn ofn oc ofr oto osg ptn pin po pa pb pt kp kl xw xp xr rv rm bc kn kv wn wf wt wv xq xe xh xb cn y2 y3 y4 y6 post → va_P D vwCl (W_Work_doTransfer kT ad rn rc rv rm bc ocn ofn oc ofr oto osg ptn pin po pa pb pt kn kv kp kl wn wf wt wv xw xp xr xq xe xh xb cn) H → va_D A (W_Work_doTransfer kT ad rn rc rv rm bc ocn ofn oc ofr oto osg ptn pin po pa pb pt kn kv kp kl wn wf wt wv xw xp xr xq xe xh xb cn) → va_S A s.heap H locs → lv_has ls 10 [(0, .ref (ad 32)), (2, .int y2), (3, .int y3), (4, .long y4), (6, .long y6)] → W p l e ({ frames := 4, cells := 0, slots := 0, locals := 101 }) s m AV below meth c H locs 0 0 QQ (F0 m 110 ls []) := by
    intro rv rm bc kn kv wn wf wt wv xq xe xh xb cn y2 y3 y4 y6 H locs ls h hP hD hS hl
    refine lv_iconst (v := 0) hx hb zd_Work_doTransfer_110 (by decide) ?_
    exact B111 rv rm bc kn kv wn wf wt wv xq xe xh xb cn y2 y3 y4 y6 0 H locs ls h hP hD hS (lv_sub hl [0, 1, 2, 3, 4] rfl)
  refine lv_aload_n hx hb zd_Work_doTransfer_0 rfl (lv_at hl 0 rfl) ?_
  refine va_get (D := D) (ci := 7) (v := .ref (ad 12)) (C := zR_Work) (T := zF_Work) (N := 14) hx hb ht zi_Work hown hK hP 23 rfl rfl 3 (by decide) (ht _ zw_213) (fun _ h9 => h9) rfl zd_Work_doTransfer_1 ?_
  refine va_getN (D := D) (ci := 3) (v := .ref (ad 13)) (C := zR_Program) (T := zF_Program) (N := 11) hx hb ht zi_Program hown hK hP 11 rfl rfl 0 (by decide) (hE.nw zx_5) (fun _ h9 => h9) rfl zd_Work_doTransfer_4 ?_
  refine lv_iload_n hx hb zd_Work_doTransfer_7 rfl (lv_at hl 1 rfl) ?_
  obtain ⟨hi_1, h⟩ := h
  refine zq_a_iald (D := D) hx hb hK hP 12 0 rfl rfl hi_1 rfl zd_Work_doTransfer_8 ?_
  refine lv_istore_n (lv' := [(2, .int (po p0.toNatClampNeg)), (0, .ref (ad 32)), (1, .int p0)]) hx hb zd_Work_doTransfer_9 rfl hl (by decide) rfl (fun ls hl => ?_)
  refine lv_aload_n hx hb zd_Work_doTransfer_10 rfl (lv_at hl 1 rfl) ?_
  refine va_get (D := D) (ci := 7) (v := .ref (ad 12)) (C := zR_Work) (T := zF_Work) (N := 14) hx hb ht zi_Work hown hK hP 23 rfl rfl 3 (by decide) (ht _ zw_213) (fun _ h9 => h9) rfl zd_Work_doTransfer_11 ?_
  refine va_getN (D := D) (ci := 3) (v := .ref (ad 16)) (C := zR_Program) (T := zF_Program) (N := 11) hx hb ht zi_Program hown hK hP 11 rfl rfl 3 (by decide) (hE.nw zx_8) (fun _ h9 => h9) rfl zd_Work_doTransfer_14 ?_
  refine lv_iload_n hx hb zd_Work_doTransfer_17 rfl (lv_at hl 2 rfl) ?_
  obtain ⟨hi_2, h⟩ := h
  refine zq_a_iald (D := D) hx hb hK hP 15 0 rfl rfl hi_2 rfl zd_Work_doTransfer_18 ?_
  refine lv_istore_n (lv' := [(3, .int (pt p0.toNatClampNeg)), (2, .int (po p0.toNatClampNeg)), (0, .ref (ad 32)), (1, .int p0)]) hx hb zd_Work_doTransfer_19 rfl hl (by decide) rfl (fun ls hl => ?_)
  refine lv_aload_n hx hb zd_Work_doTransfer_20 rfl (lv_at hl 2 rfl) ?_
  refine va_get (D := D) (ci := 7) (v := .ref (ad 7)) (C := zR_Work) (T := zF_Work) (N := 14) hx hb ht zi_Work hown hK hP 23 rfl rfl 2 (by decide) (ht _ zw_264) (fun _ h9 => h9) rfl zd_Work_doTransfer_21 ?_
  refine lv_aload_n hx hb zd_Work_doTransfer_24 rfl (lv_at hl 2 rfl) ?_
  refine va_get (D := D) (ci := 7) (v := .ref (ad 12)) (C := zR_Work) (T := zF_Work) (N := 14) hx hb ht zi_Work hown hK hP 23 rfl rfl 3 (by decide) (ht _ zw_213) (fun _ h9 => h9) rfl zd_Work_doTransfer_25 ?_
  refine va_getN (D := D) (ci := 3) (v := .ref (ad 14)) (C := zR_Program) (T := zF_Program) (N := 11) hx hb ht zi_Program hown hK hP 11 rfl rfl 1 (by decide) (hE.nw zx_6) (fun _ h9 => h9) rfl zd_Work_doTransfer_28 ?_
  refine lv_iload_n hx hb zd_Work_doTransfer_31 rfl (lv_at hl 3 rfl) ?_
  obtain ⟨hi_3, h⟩ := h
  refine zq_a_iald (D := D) hx hb hK hP 13 0 rfl rfl hi_3 rfl zd_Work_doTransfer_32 ?_
  refine lv_aload_n hx hb zd_Work_doTransfer_33 rfl (lv_at hl 2 rfl) ?_
  refine va_get (D := D) (ci := 7) (v := .int xw) (C := zR_Work) (T := zF_Work) (N := 14) hx hb ht zi_Work hown hK hP 23 rfl rfl 7 (by decide) (ht _ zw_212) (fun _ h9 => h9) rfl zd_Work_doTransfer_34 ?_
  refine zq_c_Vl (rest := []) (adl := (A_Work_doTransfer ad)) (wr := [(ad 2, .inl (kT 1, 24, .inr (.inl rc))), (ad 4, .inl (kT 2, 24, .inl rm)), (ad 5, .inr (1, [.ref (ad 6)])), (ad 6, .inl (kT 3, 4096, .inl bc)), (ad 12, .inr (3, [.ref (ad 13), .ref (ad 14), .ref (ad 15), .ref (ad 16), .int ptn, .ref (ad 17), .ref (ad 18), .ref (ad 19), .ref (ad 20), .ref (ad 21), .int pin])), (ad 13, .inl (kT 0, 200, .inl po)), (ad 14, .inl (kT 0, 200, .inl pa)), (ad 15, .inl (kT 0, 200, .inl pb)), (ad 16, .inl (kT 0, 200, .inl pt)), (ad 22, .inr (4, [.ref (ad 23), .ref (ad 24), .int kn, .int kv])), (ad 23, .inl (kT 0, 8, .inl kp)), (ad 24, .inl (kT 0, 8, .inl kl)), (ad 28, .inr (6, [.ref (ad 1), .ref (ad 5), .ref (ad 29), .ref (ad 30), .ref (ad 31), .int wn])), (ad 29, .inl (kT 0, 200, .inl wf)), (ad 30, .inl (kT 0, 200, .inl wt)), (ad 31, .inl (kT 1, 200, .inr (.inl wv))), (ad 32, .inr (7, [.ref (ad 1), .ref (ad 5), .ref (ad 7), .ref (ad 12), .ref (ad 22), .ref (ad 28), .ref (ad 34), .int xw, .int xp, .int xr, .int xq, .int xe, .int xh, .int xb])), (ad 34, .inl (kT 0, 9, .inl cn))]) ⟨hx, hb, hml, hown, ht⟩ (c_Operands_read l D kT ad rn rv ocn ofn oc ofr oto osg (pa p0.toNatClampNeg) xw _ h) (cwV 2 ht (zq_gV zw_265 zw_266 zw_267 zw_155 zw_268) rfl rfl rfl zh_Operands_read ⟨Nat.le_of_ble_eq_true rfl, Nat.le_of_ble_eq_true rfl⟩) hE hP hD hS hA [0, 2, 6, 7, 8, 9, 10] [1, 3, 4, 5, 11, 12, 13, 14, 15, 16, 17, 18, 19, 20, 21, 22, 23, 24] 25 rfl (by decide +kernel) rfl (by decide +kernel) rfl rfl 2 rfl rfl rfl rfl hl.1 (Nat.le_of_ble_eq_true rfl) rfl zd_Work_doTransfer_37 ⟨Nat.zero_le _, Nat.zero_le _⟩ (fun r_4 w1 H locs hw hJ hS => ?_)
  obtain ⟨rfl, h⟩ := hw
  obtain ⟨hP, hD⟩ := hJ (W_Work_doTransfer kT ad rn rc rv rm bc ocn ofn oc ofr oto osg ptn pin po pa pb pt kn kv kp kl wn wf wt wv xw xp xr xq xe xh xb cn) rfl rfl rfl
  refine lv_lstore (lv' := [(4, .long r_4), (3, .int (pt p0.toNatClampNeg)), (2, .int (po p0.toNatClampNeg)), (0, .ref (ad 32)), (1, .int p0)]) hx hb zd_Work_doTransfer_40 hl (by decide) rfl (fun ls hl => ?_)
  refine lv_aload_n hx hb zd_Work_doTransfer_42 rfl (lv_at hl 3 rfl) ?_
  refine va_get (D := D) (ci := 7) (v := .ref (ad 7)) (C := zR_Work) (T := zF_Work) (N := 14) hx hb ht zi_Work hown hK hP 23 rfl rfl 2 (by decide) (ht _ zw_264) (fun _ h9 => h9) rfl zd_Work_doTransfer_43 ?_
  refine lv_aload_n hx hb zd_Work_doTransfer_46 rfl (lv_at hl 3 rfl) ?_
  refine va_get (D := D) (ci := 7) (v := .ref (ad 12)) (C := zR_Work) (T := zF_Work) (N := 14) hx hb ht zi_Work hown hK hP 23 rfl rfl 3 (by decide) (ht _ zw_213) (fun _ h9 => h9) rfl zd_Work_doTransfer_47 ?_
  refine va_getN (D := D) (ci := 3) (v := .ref (ad 15)) (C := zR_Program) (T := zF_Program) (N := 11) hx hb ht zi_Program hown hK hP 11 rfl rfl 2 (by decide) (hE.nw zx_7) (fun _ h9 => h9) rfl zd_Work_doTransfer_50 ?_
  refine lv_iload_n hx hb zd_Work_doTransfer_53 rfl (lv_at hl 4 rfl) ?_
  obtain ⟨hi_5, h⟩ := h
  refine zq_a_iald (D := D) hx hb hK hP 14 0 rfl rfl hi_5 rfl zd_Work_doTransfer_54 ?_
  refine lv_aload_n hx hb zd_Work_doTransfer_55 rfl (lv_at hl 3 rfl) ?_
  refine va_get (D := D) (ci := 7) (v := .int xw) (C := zR_Work) (T := zF_Work) (N := 14) hx hb ht zi_Work hown hK hP 23 rfl rfl 7 (by decide) (ht _ zw_212) (fun _ h9 => h9) rfl zd_Work_doTransfer_56 ?_
  refine zq_c_Vl (rest := []) (adl := (A_Work_doTransfer ad)) (wr := [(ad 2, .inl (kT 1, 24, .inr (.inl rc))), (ad 4, .inl (kT 2, 24, .inl rm)), (ad 5, .inr (1, [.ref (ad 6)])), (ad 6, .inl (kT 3, 4096, .inl bc)), (ad 12, .inr (3, [.ref (ad 13), .ref (ad 14), .ref (ad 15), .ref (ad 16), .int ptn, .ref (ad 17), .ref (ad 18), .ref (ad 19), .ref (ad 20), .ref (ad 21), .int pin])), (ad 13, .inl (kT 0, 200, .inl po)), (ad 14, .inl (kT 0, 200, .inl pa)), (ad 15, .inl (kT 0, 200, .inl pb)), (ad 16, .inl (kT 0, 200, .inl pt)), (ad 22, .inr (4, [.ref (ad 23), .ref (ad 24), .int kn, .int kv])), (ad 23, .inl (kT 0, 8, .inl kp)), (ad 24, .inl (kT 0, 8, .inl kl)), (ad 28, .inr (6, [.ref (ad 1), .ref (ad 5), .ref (ad 29), .ref (ad 30), .ref (ad 31), .int wn])), (ad 29, .inl (kT 0, 200, .inl wf)), (ad 30, .inl (kT 0, 200, .inl wt)), (ad 31, .inl (kT 1, 200, .inr (.inl wv))), (ad 32, .inr (7, [.ref (ad 1), .ref (ad 5), .ref (ad 7), .ref (ad 12), .ref (ad 22), .ref (ad 28), .ref (ad 34), .int xw, .int xp, .int xr, .int xq, .int xe, .int xh, .int xb])), (ad 34, .inl (kT 0, 9, .inl cn))]) ⟨hx, hb, hml, hown, ht⟩ (c_Operands_read l D kT ad rn rv ocn ofn oc ofr oto osg (pb p0.toNatClampNeg) xw _ h) (cwV 2 ht (zq_gV zw_265 zw_266 zw_267 zw_155 zw_268) rfl rfl rfl zh_Operands_read ⟨Nat.le_of_ble_eq_true rfl, Nat.le_of_ble_eq_true rfl⟩) hE hP hD hS hA [0, 2, 6, 7, 8, 9, 10] [1, 3, 4, 5, 11, 12, 13, 14, 15, 16, 17, 18, 19, 20, 21, 22, 23, 24] 25 rfl (by decide +kernel) rfl (by decide +kernel) rfl rfl 2 rfl rfl rfl rfl hl.1 (Nat.le_of_ble_eq_true rfl) rfl zd_Work_doTransfer_59 ⟨Nat.zero_le _, Nat.zero_le _⟩ (fun r_6 w1 H locs hw hJ hS => ?_)
  obtain ⟨rfl, h⟩ := hw
  obtain ⟨hP, hD⟩ := hJ (W_Work_doTransfer kT ad rn rc rv rm bc ocn ofn oc ofr oto osg ptn pin po pa pb pt kn kv kp kl wn wf wt wv xw xp xr xq xe xh xb cn) rfl rfl rfl
  refine lv_lstore (lv' := [(6, .long r_6), (4, .long r_4), (3, .int (pt p0.toNatClampNeg)), (2, .int (po p0.toNatClampNeg)), (0, .ref (ad 32)), (1, .int p0)]) hx hb zd_Work_doTransfer_62 hl (by decide) rfl (fun ls hl => ?_)
  refine lv_aload_n hx hb zd_Work_doTransfer_64 rfl (lv_at hl 4 rfl) ?_
  refine va_get (D := D) (ci := 7) (v := .ref (ad 7)) (C := zR_Work) (T := zF_Work) (N := 14) hx hb ht zi_Work hown hK hP 23 rfl rfl 2 (by decide) (ht _ zw_264) (fun _ h9 => h9) rfl zd_Work_doTransfer_65 ?_
  refine lv_aload_n hx hb zd_Work_doTransfer_68 rfl (lv_at hl 4 rfl) ?_
  refine va_get (D := D) (ci := 7) (v := .ref (ad 12)) (C := zR_Work) (T := zF_Work) (N := 14) hx hb ht zi_Work hown hK hP 23 rfl rfl 3 (by decide) (ht _ zw_213) (fun _ h9 => h9) rfl zd_Work_doTransfer_69 ?_
  refine va_getN (D := D) (ci := 3) (v := .ref (ad 14)) (C := zR_Program) (T := zF_Program) (N := 11) hx hb ht zi_Program hown hK hP 11 rfl rfl 1 (by decide) (hE.nw zx_6) (fun _ h9 => h9) rfl zd_Work_doTransfer_72 ?_
  refine lv_iload_n hx hb zd_Work_doTransfer_75 rfl (lv_at hl 5 rfl) ?_
  obtain ⟨hi_7, h⟩ := h
  refine zq_a_iald (D := D) hx hb hK hP 13 0 rfl rfl hi_7 rfl zd_Work_doTransfer_76 ?_
  refine zq_c_Vi (rest := []) (adl := (A_Work_doTransfer ad)) (wr := [(ad 2, .inl (kT 1, 24, .inr (.inl rc))), (ad 3, .inl (kT 1, 24, .inr (.inl rv))), (ad 5, .inr (1, [.ref (ad 6)])), (ad 6, .inl (kT 3, 4096, .inl bc)), (ad 8, .inl (kT 1, 16, .inr (.inl oc))), (ad 9, .inl (kT 0, 16, .inl ofr)), (ad 10, .inl (kT 0, 16, .inl oto)), (ad 11, .inl (kT 2, 16, .inl osg)), (ad 12, .inr (3, [.ref (ad 13), .ref (ad 14), .ref (ad 15), .ref (ad 16), .int ptn, .ref (ad 17), .ref (ad 18), .ref (ad 19), .ref (ad 20), .ref (ad 21), .int pin])), (ad 13, .inl (kT 0, 200, .inl po)), (ad 14, .inl (kT 0, 200, .inl pa)), (ad 15, .inl (kT 0, 200, .inl pb)), (ad 16, .inl (kT 0, 200, .inl pt)), (ad 22, .inr (4, [.ref (ad 23), .ref (ad 24), .int kn, .int kv])), (ad 23, .inl (kT 0, 8, .inl kp)), (ad 24, .inl (kT 0, 8, .inl kl)), (ad 28, .inr (6, [.ref (ad 1), .ref (ad 5), .ref (ad 29), .ref (ad 30), .ref (ad 31), .int wn])), (ad 29, .inl (kT 0, 200, .inl wf)), (ad 30, .inl (kT 0, 200, .inl wt)), (ad 31, .inl (kT 1, 200, .inr (.inl wv))), (ad 32, .inr (7, [.ref (ad 1), .ref (ad 5), .ref (ad 7), .ref (ad 12), .ref (ad 22), .ref (ad 28), .ref (ad 34), .int xw, .int xp, .int xr, .int xq, .int xe, .int xh, .int xb])), (ad 34, .inl (kT 0, 9, .inl cn))]) ⟨hx, hb, hml, hown, ht⟩ (c_Operands_isMarked l D kT ad rn rm ocn ofn (pa p0.toNatClampNeg) _ h) (cwV 1 ht (zq_gV zw_269 zw_270 zw_271 zw_155 zw_272) rfl rfl rfl zh_Operands_isMarked ⟨Nat.le_of_ble_eq_true rfl, Nat.le_of_ble_eq_true rfl⟩) hE hP hD hS hA [0, 3, 6] [1, 2, 4, 5, 7, 8, 9, 10, 11, 12, 13, 14, 15, 16, 17, 18, 19, 20, 21, 22, 23, 24] 25 rfl (by decide +kernel) rfl (by decide +kernel) rfl rfl 2 rfl rfl rfl rfl hl.1 (Nat.le_of_ble_eq_true rfl) rfl zd_Work_doTransfer_77 ⟨Nat.zero_le _, Nat.zero_le _⟩ (fun r_8 w1 H locs hw hJ hS => ?_)
  obtain ⟨rfl, h⟩ := hw
  obtain ⟨hP, hD⟩ := hJ (W_Work_doTransfer kT ad rn rc rv rm bc ocn ofn oc ofr oto osg ptn pin po pa pb pt kn kv kp kl wn wf wt wv xw xp xr xq xe xh xb cn) rfl rfl rfl
  refine lv_if_ne (tgt := 106) hx hb zd_Work_doTransfer_80 (by decide) (fun c_9 => ?_) (fun c_9 => ?_)
  · have h := zq_if c_9 h
    exact B106 rv rm bc kn kv wn wf wt wv xq xe xh xb cn (po p0.toNatClampNeg) (pt p0.toNatClampNeg) r_4 r_6 H locs ls h hP hD hS (lv_sub hl [4, 3, 2, 1, 0] rfl)
  · have h := zq_it c_9 h
    refine lv_iload_n hx hb zd_Work_doTransfer_83 rfl (lv_at hl 3 rfl) ?_
    refine lv_if_eq (tgt := 110) hx hb zd_Work_doTransfer_84 (by decide) (fun c_10 => ?_) (fun c_10 => ?_)
    · have h := zq_it c_10 h
      exact B110 rv rm bc kn kv wn wf wt wv xq xe xh xb cn (po p0.toNatClampNeg) (pt p0.toNatClampNeg) r_4 r_6 H locs ls h hP hD hS (lv_sub hl [4, 3, 2, 1, 0] rfl)
    · have h := zq_if c_10 h
      refine lv_aload_n hx hb zd_Work_doTransfer_87 rfl (lv_at hl 4 rfl) ?_
      refine va_get (D := D) (ci := 7) (v := .ref (ad 7)) (C := zR_Work) (T := zF_Work) (N := 14) hx hb ht zi_Work hown hK hP 23 rfl rfl 2 (by decide) (ht _ zw_264) (fun _ h9 => h9) rfl zd_Work_doTransfer_88 ?_
      refine lv_aload_n hx hb zd_Work_doTransfer_91 rfl (lv_at hl 4 rfl) ?_
      refine va_get (D := D) (ci := 7) (v := .ref (ad 12)) (C := zR_Work) (T := zF_Work) (N := 14) hx hb ht zi_Work hown hK hP 23 rfl rfl 3 (by decide) (ht _ zw_213) (fun _ h9 => h9) rfl zd_Work_doTransfer_92 ?_
      refine va_getN (D := D) (ci := 3) (v := .ref (ad 15)) (C := zR_Program) (T := zF_Program) (N := 11) hx hb ht zi_Program hown hK hP 11 rfl rfl 2 (by decide) (hE.nw zx_7) (fun _ h9 => h9) rfl zd_Work_doTransfer_95 ?_
      refine lv_iload_n hx hb zd_Work_doTransfer_98 rfl (lv_at hl 5 rfl) ?_
      obtain ⟨hi_11, h⟩ := h
      refine zq_a_iald (D := D) hx hb hK hP 14 0 rfl rfl hi_11 rfl zd_Work_doTransfer_99 ?_
      refine zq_c_Vi (rest := []) (adl := (A_Work_doTransfer ad)) (wr := [(ad 2, .inl (kT 1, 24, .inr (.inl rc))), (ad 3, .inl (kT 1, 24, .inr (.inl rv))), (ad 5, .inr (1, [.ref (ad 6)])), (ad 6, .inl (kT 3, 4096, .inl bc)), (ad 8, .inl (kT 1, 16, .inr (.inl oc))), (ad 9, .inl (kT 0, 16, .inl ofr)), (ad 10, .inl (kT 0, 16, .inl oto)), (ad 11, .inl (kT 2, 16, .inl osg)), (ad 12, .inr (3, [.ref (ad 13), .ref (ad 14), .ref (ad 15), .ref (ad 16), .int ptn, .ref (ad 17), .ref (ad 18), .ref (ad 19), .ref (ad 20), .ref (ad 21), .int pin])), (ad 13, .inl (kT 0, 200, .inl po)), (ad 14, .inl (kT 0, 200, .inl pa)), (ad 15, .inl (kT 0, 200, .inl pb)), (ad 16, .inl (kT 0, 200, .inl pt)), (ad 22, .inr (4, [.ref (ad 23), .ref (ad 24), .int kn, .int kv])), (ad 23, .inl (kT 0, 8, .inl kp)), (ad 24, .inl (kT 0, 8, .inl kl)), (ad 28, .inr (6, [.ref (ad 1), .ref (ad 5), .ref (ad 29), .ref (ad 30), .ref (ad 31), .int wn])), (ad 29, .inl (kT 0, 200, .inl wf)), (ad 30, .inl (kT 0, 200, .inl wt)), (ad 31, .inl (kT 1, 200, .inr (.inl wv))), (ad 32, .inr (7, [.ref (ad 1), .ref (ad 5), .ref (ad 7), .ref (ad 12), .ref (ad 22), .ref (ad 28), .ref (ad 34), .int xw, .int xp, .int xr, .int xq, .int xe, .int xh, .int xb])), (ad 34, .inl (kT 0, 9, .inl cn))]) ⟨hx, hb, hml, hown, ht⟩ (c_Operands_isMarked l D kT ad rn rm ocn ofn (pb p0.toNatClampNeg) _ h) (cwV 1 ht (zq_gV zw_269 zw_270 zw_271 zw_155 zw_272) rfl rfl rfl zh_Operands_isMarked ⟨Nat.le_of_ble_eq_true rfl, Nat.le_of_ble_eq_true rfl⟩) hE hP hD hS hA [0, 3, 6] [1, 2, 4, 5, 7, 8, 9, 10, 11, 12, 13, 14, 15, 16, 17, 18, 19, 20, 21, 22, 23, 24] 25 rfl (by decide +kernel) rfl (by decide +kernel) rfl rfl 2 rfl rfl rfl rfl hl.1 (Nat.le_of_ble_eq_true rfl) rfl zd_Work_doTransfer_100 ⟨Nat.zero_le _, Nat.zero_le _⟩ (fun r_12 w1 H locs hw hJ hS => ?_)
      obtain ⟨rfl, h⟩ := hw
      obtain ⟨hP, hD⟩ := hJ (W_Work_doTransfer kT ad rn rc rv rm bc ocn ofn oc ofr oto osg ptn pin po pa pb pt kn kv kp kl wn wf wt wv xw xp xr xq xe xh xb cn) rfl rfl rfl
      refine lv_if_eq (tgt := 110) hx hb zd_Work_doTransfer_103 (by decide) (fun c_13 => ?_) (fun c_13 => ?_)
      · have h := zq_it c_13 h
        exact B110 rv rm bc kn kv wn wf wt wv xq xe xh xb cn (po p0.toNatClampNeg) (pt p0.toNatClampNeg) r_4 r_6 H locs ls h hP hD hS (lv_sub hl [4, 3, 2, 1, 0] rfl)
      · have h := zq_if c_13 h
        exact B106 rv rm bc kn kv wn wf wt wv xq xe xh xb cn (po p0.toNatClampNeg) (pt p0.toNatClampNeg) r_4 r_6 H locs ls h hP hD hS (lv_sub hl [4, 3, 2, 1, 0] rfl)
end
section
abbrev W_Work_writeWhatWaits (kT : Nat → ClassId) (ad : Nat → Nat) (rn : Int32) (rc : Nat → Int64) (rv : Nat → Int64) (rm : Nat → Int32) (bc : Nat → Int32) (wn : Int32) (wf : Nat → Int32) (wt : Nat → Int32) (wv : Nat → Int64) (xw : Int32) (xp : Int32) (xr : Int32) (xq : Int32) (xe : Int32) (xh : Int32) (xb : Int32) : va_W := [(ad 1, .inr (0, [.ref (ad 2), .ref (ad 3), .ref (ad 4), .int rn])), (ad 2, .inl (kT 1, 24, .inr (.inl rc))), (ad 3, .inl (kT 1, 24, .inr (.inl rv))), (ad 4, .inl (kT 2, 24, .inl rm)), (ad 5, .inr (1, [.ref (ad 6)])), (ad 6, .inl (kT 3, 4096, .inl bc)), (ad 28, .inr (6, [.ref (ad 1), .ref (ad 5), .ref (ad 29), .ref (ad 30), .ref (ad 31), .int wn])), (ad 29, .inl (kT 0, 200, .inl wf)), (ad 30, .inl (kT 0, 200, .inl wt)), (ad 31, .inl (kT 1, 200, .inr (.inl wv))), (ad 32, .inr (7, [.ref (ad 1), .ref (ad 5), .ref (ad 7), .ref (ad 12), .ref (ad 22), .ref (ad 28), .ref (ad 34), .int xw, .int xp, .int xr, .int xq, .int xe, .int xh, .int xb]))]
abbrev A_Work_writeWhatWaits (ad : Nat → Nat) : List Nat := [ad 1, ad 2, ad 3, ad 4, ad 5, ad 6, ad 28, ad 29, ad 30, ad 31, ad 32]
def wp_Work_writeWhatWaits (rn : Int32) (rc : Nat → Int64) (rv : Nat → Int64) (rm : Nat → Int32) (bc : Nat → Int32) (wn : Int32) (wf : Nat → Int32) (wt : Nat → Int32) (wv : Nat → Int64) (xw : Int32) (xp : Int32) (xr : Int32) (xq : Int32) (xe : Int32) (xh : Int32) (xb : Int32)  (post : (Nat → Int64) → (Nat → Int32) → (Nat → Int32) → Prop) : Prop := (if xp = 0 then post  rv rm bc else (if xb = (-1) then wp_Writes_performInOrder rn rc rv rm bc wn wf wt wv (fun rv_3 rm_4 bc_5 => post  rv_3 rm_4 bc_5) else wp_Registers_put rn rc rv rm 0 (zq_j_i2l xb) 0 (fun rv_7 rm_8 => wp_Writes_performInOrder rn rc rv_7 rm_8 bc wn wf wt wv (fun rv_10 rm_11 bc_12 => post  rv_10 rm_11 bc_12))))
set_option maxHeartbeats 4000000 in
set_option maxRecDepth 100000 in
theorem c_Work_writeWhatWaits (l : Launch) (D : va_G) (kT : Nat → ClassId) (ad : Nat → Nat) (rn : Int32) (rc : Nat → Int64) (rv : Nat → Int64) (rm : Nat → Int32) (bc : Nat → Int32) (wn : Int32) (wf : Nat → Int32) (wt : Nat → Int32) (wv : Nat → Int64) (xw : Int32) (xp : Int32) (xr : Int32) (xq : Int32) (xe : Int32) (xh : Int32) (xb : Int32)  (post : (Nat → Int64) → (Nat → Int32) → (Nat → Int32) → Prop) (h : wp_Work_writeWhatWaits rn rc rv rm bc wn wf wt wv xw xp xr xq xe xh xb  post) : zq_Mv l zy_Work_writeWhatWaits zs_Work_writeWhatWaits ({ frames := 3, cells := 0, slots := 0, locals := 69 }) D kT [.ref (ad 32)] (W_Work_writeWhatWaits kT ad rn rc rv rm bc wn wf wt wv xw xp xr xq xe xh xb) (fun w' => ∃ (rv' : Nat → Int64) (rm' : Nat → Int32) (bc' : Nat → Int32), w' = (W_Work_writeWhatWaits kT ad rn rc rv' rm' bc' wn wf wt wv xw xp xr xq xe xh xb) ∧ post  rv' rm' bc') := by
  refine zq_Mv_of (adl := (A_Work_writeWhatWaits ad)) (cc := zb_Work_writeWhatWaits) (maxL := 1) (own := zR_Work) rfl (by decide) rfl rfl (Nat.le_of_ble_eq_true rfl) ?_
  intro p e s m AV below meth c A QQ H locs ls hx hb hml hown ht hE hA hret hP hD hS hl
  have hK := hE.1
  have hl : lv_has ls 1 [(0, .ref (ad 32))] := hl
  refine lv_aload_n hx hb zd_Work_writeWhatWaits_0 rfl (lv_at hl 0 rfl) ?_
  refine va_get (D := D) (ci := 7) (v := .int xp) (C := zR_Work) (T := zF_Work) (N := 14) hx hb ht zi_Work hown hK hP 10 rfl rfl 8 (by decide) (ht _ zw_219) (fun _ h9 => h9) rfl zd_Work_writeWhatWaits_1 ?_
  refine lv_if_ne (tgt := 8) hx hb zd_Work_writeWhatWaits_4 (by decide) (fun c_1 => ?_) (fun c_1 => ?_)
  · have h := zq_if c_1 h
    refine lv_aload_n hx hb zd_Work_writeWhatWaits_8 rfl (lv_at hl 0 rfl) ?_
    refine va_get (D := D) (ci := 7) (v := .int xb) (C := zR_Work) (T := zF_Work) (N := 14) hx hb ht zi_Work hown hK hP 10 rfl rfl 13 (by decide) (ht _ zw_224) (fun _ h9 => h9) rfl zd_Work_writeWhatWaits_9 ?_
    refine lv_iconst (v := (-1)) hx hb zd_Work_writeWhatWaits_12 (by decide) ?_
    refine lv_icmp_eq (tgt := 30) hx hb zd_Work_writeWhatWaits_13 (by decide) (fun c_2 => ?_) (fun c_2 => ?_)
    · have h := zq_it c_2 h
      refine lv_aload_n hx hb zd_Work_writeWhatWaits_30 rfl (lv_at hl 0 rfl) ?_
      refine va_get (D := D) (ci := 7) (v := .ref (ad 28)) (C := zR_Work) (T := zF_Work) (N := 14) hx hb ht zi_Work hown hK hP 10 rfl rfl 5 (by decide) (ht _ zw_225) (fun _ h9 => h9) rfl zd_Work_writeWhatWaits_31 ?_
      refine zq_c_Vv (rest := []) (adl := (A_Work_writeWhatWaits ad)) (wr := [(ad 32, .inr (7, [.ref (ad 1), .ref (ad 5), .ref (ad 7), .ref (ad 12), .ref (ad 22), .ref (ad 28), .ref (ad 34), .int xw, .int xp, .int xr, .int xq, .int xe, .int xh, .int xb]))]) ⟨hx, hb, hml, hown, ht⟩ (c_Writes_performInOrder l D kT ad rn rc rv rm bc wn wf wt wv _ h) (cwV 0 ht (zq_gV zw_293 zw_294 zw_295 zw_192 zw_296) rfl rfl rfl zh_Writes_performInOrder ⟨Nat.le_of_ble_eq_true rfl, Nat.le_of_ble_eq_true rfl⟩) hE hP hD hS hA [0, 1, 2, 3, 4, 5, 6, 7, 8, 9] [10] 11 rfl (by decide +kernel) rfl (by decide +kernel) rfl rfl 6 rfl rfl rfl rfl hl.1 (Nat.le_of_ble_eq_true rfl) rfl zd_Work_writeWhatWaits_34 ⟨Nat.zero_le _, Nat.zero_le _⟩ (fun w1 H locs hw hJ hS => ?_)
      obtain ⟨rv_3, rm_4, bc_5, rfl, h⟩ := hw
      obtain ⟨hP, hD⟩ := hJ (W_Work_writeWhatWaits kT ad rn rc rv_3 rm_4 bc_5 wn wf wt wv xw xp xr xq xe xh xb) rfl rfl rfl
      exact hret  _ H locs 37 ls ⟨rv_3, rm_4, bc_5, rfl, h⟩ hP rfl hS zd_Work_writeWhatWaits_37
    · have h := zq_if c_2 h
      refine lv_aload_n hx hb zd_Work_writeWhatWaits_16 rfl (lv_at hl 0 rfl) ?_
      refine va_get (D := D) (ci := 7) (v := .ref (ad 1)) (C := zR_Work) (T := zF_Work) (N := 14) hx hb ht zi_Work hown hK hP 10 rfl rfl 0 (by decide) (ht _ zw_297) (fun _ h9 => h9) rfl zd_Work_writeWhatWaits_17 ?_
      refine lv_iconst (v := 0) hx hb zd_Work_writeWhatWaits_20 (by decide) ?_
      refine lv_aload_n hx hb zd_Work_writeWhatWaits_21 rfl (lv_at hl 0 rfl) ?_
      refine va_get (D := D) (ci := 7) (v := .int xb) (C := zR_Work) (T := zF_Work) (N := 14) hx hb ht zi_Work hown hK hP 10 rfl rfl 13 (by decide) (ht _ zw_224) (fun _ h9 => h9) rfl zd_Work_writeWhatWaits_22 ?_
      refine lv_i2l (v := (zq_j_i2l xb)) hx hb zd_Work_writeWhatWaits_25 rfl ?_
      refine lv_iconst (v := 0) hx hb zd_Work_writeWhatWaits_26 (by decide) ?_
      refine zq_c_Vv (rest := []) (adl := (A_Work_writeWhatWaits ad)) (wr := [(ad 5, .inr (1, [.ref (ad 6)])), (ad 6, .inl (kT 3, 4096, .inl bc)), (ad 28, .inr (6, [.ref (ad 1), .ref (ad 5), .ref (ad 29), .ref (ad 30), .ref (ad 31), .int wn])), (ad 29, .inl (kT 0, 200, .inl wf)), (ad 30, .inl (kT 0, 200, .inl wt)), (ad 31, .inl (kT 1, 200, .inr (.inl wv))), (ad 32, .inr (7, [.ref (ad 1), .ref (ad 5), .ref (ad 7), .ref (ad 12), .ref (ad 22), .ref (ad 28), .ref (ad 34), .int xw, .int xp, .int xr, .int xq, .int xe, .int xh, .int xb]))]) ⟨hx, hb, hml, hown, ht⟩ (c_Registers_put l D kT ad rn rc rv rm 0 (zq_j_i2l xb) 0 _ h) (cwV 3 ht (zq_gV zw_298 zw_126 zw_127 zw_128 zw_129) rfl rfl rfl zh_Registers_put ⟨Nat.le_of_ble_eq_true rfl, Nat.le_of_ble_eq_true rfl⟩) hE hP hD hS hA [0, 1, 2, 3] [4, 5, 6, 7, 8, 9, 10] 11 rfl (by decide +kernel) rfl (by decide +kernel) rfl rfl 0 rfl rfl rfl rfl hl.1 (Nat.le_of_ble_eq_true rfl) rfl zd_Work_writeWhatWaits_27 ⟨Nat.zero_le _, Nat.zero_le _⟩ (fun w1 H locs hw hJ hS => ?_)
      obtain ⟨rv_7, rm_8, rfl, h⟩ := hw
      obtain ⟨hP, hD⟩ := hJ (W_Work_writeWhatWaits kT ad rn rc rv_7 rm_8 bc wn wf wt wv xw xp xr xq xe xh xb) rfl rfl rfl
      refine lv_aload_n hx hb zd_Work_writeWhatWaits_30 rfl (lv_at hl 0 rfl) ?_
      refine va_get (D := D) (ci := 7) (v := .ref (ad 28)) (C := zR_Work) (T := zF_Work) (N := 14) hx hb ht zi_Work hown hK hP 10 rfl rfl 5 (by decide) (ht _ zw_225) (fun _ h9 => h9) rfl zd_Work_writeWhatWaits_31 ?_
      refine zq_c_Vv (rest := []) (adl := (A_Work_writeWhatWaits ad)) (wr := [(ad 32, .inr (7, [.ref (ad 1), .ref (ad 5), .ref (ad 7), .ref (ad 12), .ref (ad 22), .ref (ad 28), .ref (ad 34), .int xw, .int xp, .int xr, .int xq, .int xe, .int xh, .int xb]))]) ⟨hx, hb, hml, hown, ht⟩ (c_Writes_performInOrder l D kT ad rn rc rv_7 rm_8 bc wn wf wt wv _ h) (cwV 0 ht (zq_gV zw_293 zw_294 zw_295 zw_192 zw_296) rfl rfl rfl zh_Writes_performInOrder ⟨Nat.le_of_ble_eq_true rfl, Nat.le_of_ble_eq_true rfl⟩) hE hP hD hS hA [0, 1, 2, 3, 4, 5, 6, 7, 8, 9] [10] 11 rfl (by decide +kernel) rfl (by decide +kernel) rfl rfl 6 rfl rfl rfl rfl hl.1 (Nat.le_of_ble_eq_true rfl) rfl zd_Work_writeWhatWaits_34 ⟨Nat.zero_le _, Nat.zero_le _⟩ (fun w1 H locs hw hJ hS => ?_)
      obtain ⟨rv_10, rm_11, bc_12, rfl, h⟩ := hw
      obtain ⟨hP, hD⟩ := hJ (W_Work_writeWhatWaits kT ad rn rc rv_10 rm_11 bc_12 wn wf wt wv xw xp xr xq xe xh xb) rfl rfl rfl
      exact hret  _ H locs 37 ls ⟨rv_10, rm_11, bc_12, rfl, h⟩ hP rfl hS zd_Work_writeWhatWaits_37
  · have h := zq_it c_1 h
    exact hret  _ H locs 7 ls ⟨rv, rm, bc, rfl, h⟩ hP rfl hS zd_Work_writeWhatWaits_7
abbrev W_Work_takeBack (kT : Nat → ClassId) (ad : Nat → Nat) (rn : Int32) (rc : Nat → Int64) (rv : Nat → Int64) (rm : Nat → Int32) (bc : Nat → Int32) (wn : Int32) (wf : Nat → Int32) (wt : Nat → Int32) (wv : Nat → Int64) (xw : Int32) (xp : Int32) (xr : Int32) (xq : Int32) (xe : Int32) (xh : Int32) (xb : Int32) : va_W := [(ad 1, .inr (0, [.ref (ad 2), .ref (ad 3), .ref (ad 4), .int rn])), (ad 2, .inl (kT 1, 24, .inr (.inl rc))), (ad 3, .inl (kT 1, 24, .inr (.inl rv))), (ad 4, .inl (kT 2, 24, .inl rm)), (ad 5, .inr (1, [.ref (ad 6)])), (ad 6, .inl (kT 3, 4096, .inl bc)), (ad 28, .inr (6, [.ref (ad 1), .ref (ad 5), .ref (ad 29), .ref (ad 30), .ref (ad 31), .int wn])), (ad 29, .inl (kT 0, 200, .inl wf)), (ad 30, .inl (kT 0, 200, .inl wt)), (ad 31, .inl (kT 1, 200, .inr (.inl wv))), (ad 32, .inr (7, [.ref (ad 1), .ref (ad 5), .ref (ad 7), .ref (ad 12), .ref (ad 22), .ref (ad 28), .ref (ad 34), .int xw, .int xp, .int xr, .int xq, .int xe, .int xh, .int xb]))]
abbrev A_Work_takeBack (ad : Nat → Nat) : List Nat := [ad 1, ad 2, ad 3, ad 4, ad 5, ad 6, ad 28, ad 29, ad 30, ad 31, ad 32]
def wp_Work_takeBack (rn : Int32) (rc : Nat → Int64) (rv : Nat → Int64) (rm : Nat → Int32) (bc : Nat → Int32) (wn : Int32) (wf : Nat → Int32) (wt : Nat → Int32) (wv : Nat → Int64) (xw : Int32) (xp : Int32) (xr : Int32) (xq : Int32) (xe : Int32) (xh : Int32) (xb : Int32)  (post : (Nat → Int64) → (Nat → Int32) → (Nat → Int32) → Int32 → Prop) : Prop := (if xp = 0 then wp_Writes_performBackwards rn rc rv rm bc wn wf wt wv (fun rv_2 rm_3 bc_4 => post  rv_2 rm_3 bc_4 0) else post  rv rm bc 0)
set_option maxHeartbeats 4000000 in
set_option maxRecDepth 100000 in
theorem c_Work_takeBack (l : Launch) (D : va_G) (kT : Nat → ClassId) (ad : Nat → Nat) (rn : Int32) (rc : Nat → Int64) (rv : Nat → Int64) (rm : Nat → Int32) (bc : Nat → Int32) (wn : Int32) (wf : Nat → Int32) (wt : Nat → Int32) (wv : Nat → Int64) (xw : Int32) (xp : Int32) (xr : Int32) (xq : Int32) (xe : Int32) (xh : Int32) (xb : Int32)  (post : (Nat → Int64) → (Nat → Int32) → (Nat → Int32) → Int32 → Prop) (h : wp_Work_takeBack rn rc rv rm bc wn wf wt wv xw xp xr xq xe xh xb  post) : zq_Mv l zy_Work_takeBack zs_Work_takeBack ({ frames := 3, cells := 0, slots := 0, locals := 69 }) D kT [.ref (ad 32)] (W_Work_takeBack kT ad rn rc rv rm bc wn wf wt wv xw xp xr xq xe xh xb) (fun w' => ∃ (rv' : Nat → Int64) (rm' : Nat → Int32) (bc' : Nat → Int32) (xh' : Int32), w' = (W_Work_takeBack kT ad rn rc rv' rm' bc' wn wf wt wv xw xp xr xq xe xh' xb) ∧ post  rv' rm' bc' xh') := by
  refine zq_Mv_of (adl := (A_Work_takeBack ad)) (cc := zb_Work_takeBack) (maxL := 1) (own := zR_Work) rfl (by decide) rfl rfl (Nat.le_of_ble_eq_true rfl) ?_
  intro p e s m AV below meth c A QQ H locs ls hx hb hml hown ht hE hA hret hP hD hS hl
  have hK := hE.1
  have hl : lv_has ls 1 [(0, .ref (ad 32))] := hl
  refine lv_aload_n hx hb zd_Work_takeBack_0 rfl (lv_at hl 0 rfl) ?_
  refine va_get (D := D) (ci := 7) (v := .int xp) (C := zR_Work) (T := zF_Work) (N := 14) hx hb ht zi_Work hown hK hP 10 rfl rfl 8 (by decide) (ht _ zw_219) (fun _ h9 => h9) rfl zd_Work_takeBack_1 ?_
  refine lv_if_ne (tgt := 14) hx hb zd_Work_takeBack_4 (by decide) (fun c_1 => ?_) (fun c_1 => ?_)
  · have h := zq_if c_1 h
    refine lv_aload_n hx hb zd_Work_takeBack_14 rfl (lv_at hl 0 rfl) ?_
    refine lv_iconst (v := 0) hx hb zd_Work_takeBack_15 (by decide) ?_
    refine va_put (D := D) (ci := 7) (v := .int 0) (ty := .boolean) (C := zR_Work) (T := zF_Work) (N := 14) hx hb ht zi_Work zt_Work zt_Work_ok zn_Work hown hK hP hD hS 10 rfl rfl 12 (by decide) (ht _ zw_223) (fun _ h9 => h9) rfl (by decide +kernel) rfl rfl (Nat.le_of_ble_eq_true rfl) zd_Work_takeBack_16 (fun H locs hP hD hS => ?_)
    have hP : va_P D vwCl (W_Work_takeBack kT ad rn rc rv rm bc wn wf wt wv xw xp xr xq xe 0 xb) H := hP
    have hD : va_D A (W_Work_takeBack kT ad rn rc rv rm bc wn wf wt wv xw xp xr xq xe 0 xb) := hD
    exact hret  _ H locs 19 ls ⟨rv, rm, bc, 0, rfl, h⟩ hP rfl hS zd_Work_takeBack_19
  · have h := zq_it c_1 h
    refine lv_aload_n hx hb zd_Work_takeBack_7 rfl (lv_at hl 0 rfl) ?_
    refine va_get (D := D) (ci := 7) (v := .ref (ad 28)) (C := zR_Work) (T := zF_Work) (N := 14) hx hb ht zi_Work hown hK hP 10 rfl rfl 5 (by decide) (ht _ zw_225) (fun _ h9 => h9) rfl zd_Work_takeBack_8 ?_
    refine zq_c_Vv (rest := []) (adl := (A_Work_takeBack ad)) (wr := [(ad 32, .inr (7, [.ref (ad 1), .ref (ad 5), .ref (ad 7), .ref (ad 12), .ref (ad 22), .ref (ad 28), .ref (ad 34), .int xw, .int xp, .int xr, .int xq, .int xe, .int xh, .int xb]))]) ⟨hx, hb, hml, hown, ht⟩ (c_Writes_performBackwards l D kT ad rn rc rv rm bc wn wf wt wv _ h) (cwV 0 ht (zq_gV zw_299 zw_300 zw_301 zw_192 zw_302) rfl rfl rfl zh_Writes_performBackwards ⟨Nat.le_of_ble_eq_true rfl, Nat.le_of_ble_eq_true rfl⟩) hE hP hD hS hA [0, 1, 2, 3, 4, 5, 6, 7, 8, 9] [10] 11 rfl (by decide +kernel) rfl (by decide +kernel) rfl rfl 6 rfl rfl rfl rfl hl.1 (Nat.le_of_ble_eq_true rfl) rfl zd_Work_takeBack_11 ⟨Nat.zero_le _, Nat.zero_le _⟩ (fun w1 H locs hw hJ hS => ?_)
    obtain ⟨rv_2, rm_3, bc_4, rfl, h⟩ := hw
    obtain ⟨hP, hD⟩ := hJ (W_Work_takeBack kT ad rn rc rv_2 rm_3 bc_4 wn wf wt wv xw xp xr xq xe xh xb) rfl rfl rfl
    refine lv_aload_n hx hb zd_Work_takeBack_14 rfl (lv_at hl 0 rfl) ?_
    refine lv_iconst (v := 0) hx hb zd_Work_takeBack_15 (by decide) ?_
    refine va_put (D := D) (ci := 7) (v := .int 0) (ty := .boolean) (C := zR_Work) (T := zF_Work) (N := 14) hx hb ht zi_Work zt_Work zt_Work_ok zn_Work hown hK hP hD hS 10 rfl rfl 12 (by decide) (ht _ zw_223) (fun _ h9 => h9) rfl (by decide +kernel) rfl rfl (Nat.le_of_ble_eq_true rfl) zd_Work_takeBack_16 (fun H locs hP hD hS => ?_)
    have hP : va_P D vwCl (W_Work_takeBack kT ad rn rc rv_2 rm_3 bc_4 wn wf wt wv xw xp xr xq xe 0 xb) H := hP
    have hD : va_D A (W_Work_takeBack kT ad rn rc rv_2 rm_3 bc_4 wn wf wt wv xw xp xr xq xe 0 xb) := hD
    exact hret  _ H locs 19 ls ⟨rv_2, rm_3, bc_4, 0, rfl, h⟩ hP rfl hS zd_Work_takeBack_19
abbrev W_Work_carryOut (kT : Nat → ClassId) (ad : Nat → Nat) (rn : Int32) (rc : Nat → Int64) (rv : Nat → Int64) (rm : Nat → Int32) (bc : Nat → Int32) (ocn : Int32) (ofn : Int32) (oc : Nat → Int64) (ofr : Nat → Int32) (oto : Nat → Int32) (osg : Nat → Int32) (ptn : Int32) (pin : Int32) (po : Nat → Int32) (pa : Nat → Int32) (pb : Nat → Int32) (pt : Nat → Int32) (pw : Nat → Int32) (pst : Nat → Int32) (pe : Nat → Int32) (kn : Int32) (kv : Int32) (kp : Nat → Int32) (kl : Nat → Int32) (wn : Int32) (wf : Nat → Int32) (wt : Nat → Int32) (wv : Nat → Int64) (xw : Int32) (xp : Int32) (xr : Int32) (xq : Int32) (xe : Int32) (xh : Int32) (xb : Int32) (cn : Nat → Int32) : va_W := [(ad 1, .inr (0, [.ref (ad 2), .ref (ad 3), .ref (ad 4), .int rn])), (ad 2, .inl (kT 1, 24, .inr (.inl rc))), (ad 3, .inl (kT 1, 24, .inr (.inl rv))), (ad 4, .inl (kT 2, 24, .inl rm)), (ad 5, .inr (1, [.ref (ad 6)])), (ad 6, .inl (kT 3, 4096, .inl bc)), (ad 7, .inr (2, [.ref (ad 1), .ref (ad 8), .ref (ad 9), .ref (ad 10), .ref (ad 11), .int ocn, .int ofn])), (ad 8, .inl (kT 1, 16, .inr (.inl oc))), (ad 9, .inl (kT 0, 16, .inl ofr)), (ad 10, .inl (kT 0, 16, .inl oto)), (ad 11, .inl (kT 2, 16, .inl osg)), (ad 12, .inr (3, [.ref (ad 13), .ref (ad 14), .ref (ad 15), .ref (ad 16), .int ptn, .ref (ad 17), .ref (ad 18), .ref (ad 19), .ref (ad 20), .ref (ad 21), .int pin])), (ad 13, .inl (kT 0, 200, .inl po)), (ad 14, .inl (kT 0, 200, .inl pa)), (ad 15, .inl (kT 0, 200, .inl pb)), (ad 16, .inl (kT 0, 200, .inl pt)), (ad 19, .inl (kT 0, 40, .inl pw)), (ad 20, .inl (kT 0, 40, .inl pst)), (ad 21, .inl (kT 0, 40, .inl pe)), (ad 22, .inr (4, [.ref (ad 23), .ref (ad 24), .int kn, .int kv])), (ad 23, .inl (kT 0, 8, .inl kp)), (ad 24, .inl (kT 0, 8, .inl kl)), (ad 28, .inr (6, [.ref (ad 1), .ref (ad 5), .ref (ad 29), .ref (ad 30), .ref (ad 31), .int wn])), (ad 29, .inl (kT 0, 200, .inl wf)), (ad 30, .inl (kT 0, 200, .inl wt)), (ad 31, .inl (kT 1, 200, .inr (.inl wv))), (ad 32, .inr (7, [.ref (ad 1), .ref (ad 5), .ref (ad 7), .ref (ad 12), .ref (ad 22), .ref (ad 28), .ref (ad 34), .int xw, .int xp, .int xr, .int xq, .int xe, .int xh, .int xb])), (ad 34, .inl (kT 0, 9, .inl cn))]
abbrev A_Work_carryOut (ad : Nat → Nat) : List Nat := [ad 1, ad 2, ad 3, ad 4, ad 5, ad 6, ad 7, ad 8, ad 9, ad 10, ad 11, ad 12, ad 13, ad 14, ad 15, ad 16, ad 19, ad 20, ad 21, ad 22, ad 23, ad 24, ad 28, ad 29, ad 30, ad 31, ad 32, ad 34]
def wp_Work_carryOut_88 (rn : Int32) (rc : Nat → Int64) (ocn : Int32) (ofn : Int32) (oc : Nat → Int64) (ofr : Nat → Int32) (oto : Nat → Int32) (osg : Nat → Int32) (ptn : Int32) (pin : Int32) (po : Nat → Int32) (pa : Nat → Int32) (pb : Nat → Int32) (pt : Nat → Int32) (pw : Nat → Int32) (pst : Nat → Int32) (pe : Nat → Int32) (kp : Nat → Int32) (kl : Nat → Int32) (rv : Nat → Int64) (rm : Nat → Int32) (bc : Nat → Int32) (kn : Int32) (kv : Int32) (wn : Int32) (wf : Nat → Int32) (wt : Nat → Int32) (wv : Nat → Int64) (xw : Int32) (xp : Int32) (xr : Int32) (xq : Int32) (xe : Int32) (xh : Int32) (xb : Int32) (cn : Nat → Int32) (y3 : Int32) (y4 : Int32) (y5 : Int32) (post : Int32 → (Nat → Int64) → (Nat → Int32) → (Nat → Int32) → Int32 → Int32 → Int32 → (Nat → Int32) → (Nat → Int32) → (Nat → Int64) → Int32 → Int32 → Int32 → Int32 → Int32 → Int32 → Int32 → (Nat → Int32) → Prop) : Prop := (if y5 = 0 then wp_Work_writeWhatWaits rn rc rv rm bc wn wf wt wv xw xp xr xq xe xh xb (fun rv_40 rm_41 bc_42 => post y5 rv_40 rm_41 bc_42 kn kv wn wf wt wv xw xp xr xq xe xh xb cn) else (if xr = 0 then post y5 rv rm bc kn kv wn wf wt wv xw xp xr xq xe xh xb cn else wp_Work_takeBack rn rc rv rm bc wn wf wt wv xw xp xr xq xe xh xb (fun rv_32 rm_33 bc_34 xh_35 => wp_Kept_restore kn kv y3 y4 (fun kn_37 kv_38 => post y5 rv_32 rm_33 bc_34 kn_37 kv_38 wn wf wt wv xw xp xr xq xe xh_35 xb cn))))
def wp_Work_carryOut_37 (rn : Int32) (rc : Nat → Int64) (ocn : Int32) (ofn : Int32) (oc : Nat → Int64) (ofr : Nat → Int32) (oto : Nat → Int32) (osg : Nat → Int32) (ptn : Int32) (pin : Int32) (po : Nat → Int32) (pa : Nat → Int32) (pb : Nat → Int32) (pt : Nat → Int32) (pw : Nat → Int32) (pst : Nat → Int32) (pe : Nat → Int32) (kp : Nat → Int32) (kl : Nat → Int32) (post : Int32 → (Nat → Int64) → (Nat → Int32) → (Nat → Int32) → Int32 → Int32 → Int32 → (Nat → Int32) → (Nat → Int32) → (Nat → Int64) → Int32 → Int32 → Int32 → Int32 → Int32 → Int32 → Int32 → (Nat → Int32) → Prop) : Nat → (Nat → Int64) → (Nat → Int32) → (Nat → Int32) → (Int32) → (Int32) → (Int32) → (Nat → Int32) → (Nat → Int32) → (Nat → Int64) → (Int32) → (Int32) → (Int32) → (Int32) → (Int32) → (Int32) → (Int32) → (Nat → Int32) → Int32 → Int32 → Int32 → Int32 → Int32 → Prop
  | 0 => fun _ _ _ _ _ _ _ _ _ _ _ _ _ _ _ _ _ _ _ _ _ _ => False
  | n + 1 => fun rv rm bc kn kv wn wf wt wv xw xp xr xq xe xh xb cn y1 y3 y4 y5 y6 => vp_in y1 40 ∧ (if (pe y1.toNatClampNeg) ≤ y6 then wp_Work_carryOut_88 rn rc ocn ofn oc ofr oto osg ptn pin po pa pb pt pw pst pe kp kl rv rm bc kn kv wn wf wt wv xw xp xr xq xe xh xb cn y3 y4 y5 post else (if y5 = 0 then (if xe = 0 then wp_Work_doTransfer rn rc rv rm bc ocn ofn oc ofr oto osg ptn pin po pa pb pt kn kv kp kl wn wf wt wv xw xp xr xq xe xh xb (upd cn 8 ((cn 8) + 1)) y6 (fun r_29 rv_15 rm_16 bc_17 kn_18 kv_19 wn_20 wf_21 wt_22 wv_23 xq_24 xe_25 xh_26 xb_27 cn_28 => wp_Work_carryOut_37 rn rc ocn ofn oc ofr oto osg ptn pin po pa pb pt pw pst pe kp kl post n rv_15 rm_16 bc_17 kn_18 kv_19 wn_20 wf_21 wt_22 wv_23 xw xp xr xq_24 xe_25 xh_26 xb_27 cn_28 y1 y3 y4 r_29 (y6 + 1)) else wp_Work_carryOut_88 rn rc ocn ofn oc ofr oto osg ptn pin po pa pb pt pw pst pe kp kl rv rm bc kn kv wn wf wt wv xw xp xr xq xe xh xb cn y3 y4 y5 post) else wp_Work_carryOut_88 rn rc ocn ofn oc ofr oto osg ptn pin po pa pb pt pw pst pe kp kl rv rm bc kn kv wn wf wt wv xw xp xr xq xe xh xb cn y3 y4 y5 post))
def wp_Work_carryOut (rn : Int32) (rc : Nat → Int64) (rv : Nat → Int64) (rm : Nat → Int32) (bc : Nat → Int32) (ocn : Int32) (ofn : Int32) (oc : Nat → Int64) (ofr : Nat → Int32) (oto : Nat → Int32) (osg : Nat → Int32) (ptn : Int32) (pin : Int32) (po : Nat → Int32) (pa : Nat → Int32) (pb : Nat → Int32) (pt : Nat → Int32) (pw : Nat → Int32) (pst : Nat → Int32) (pe : Nat → Int32) (kn : Int32) (kv : Int32) (kp : Nat → Int32) (kl : Nat → Int32) (wn : Int32) (wf : Nat → Int32) (wt : Nat → Int32) (wv : Nat → Int64) (xw : Int32) (xp : Int32) (xr : Int32) (xq : Int32) (xe : Int32) (xh : Int32) (xb : Int32) (cn : Nat → Int32) (p0 : Int32) (p1 : Int32) (post : Int32 → (Nat → Int64) → (Nat → Int32) → (Nat → Int32) → Int32 → Int32 → Int32 → (Nat → Int32) → (Nat → Int32) → (Nat → Int64) → Int32 → Int32 → Int32 → Int32 → Int32 → Int32 → Int32 → (Nat → Int32) → Prop) : Prop := wp_Work_prepare ptn pin pw wn xw xp xr xq xe xh xb p0 p1 (fun wn_1 xw_2 xp_3 xr_4 xq_5 xe_6 xh_7 xb_8 => vp_in p0 40 ∧ ∃ n, wp_Work_carryOut_37 rn rc ocn ofn oc ofr oto osg ptn pin po pa pb pt pw pst pe kp kl post n rv rm bc kn kv wn_1 wf wt wv xw_2 xp_3 xr_4 xq_5 xe_6 xh_7 xb_8 cn p0 kn kv 0 (pst p0.toNatClampNeg))
set_option maxHeartbeats 4000000 in
set_option maxRecDepth 100000 in
theorem c_Work_carryOut (l : Launch) (D : va_G) (kT : Nat → ClassId) (ad : Nat → Nat) (rn : Int32) (rc : Nat → Int64) (rv : Nat → Int64) (rm : Nat → Int32) (bc : Nat → Int32) (ocn : Int32) (ofn : Int32) (oc : Nat → Int64) (ofr : Nat → Int32) (oto : Nat → Int32) (osg : Nat → Int32) (ptn : Int32) (pin : Int32) (po : Nat → Int32) (pa : Nat → Int32) (pb : Nat → Int32) (pt : Nat → Int32) (pw : Nat → Int32) (pst : Nat → Int32) (pe : Nat → Int32) (kn : Int32) (kv : Int32) (kp : Nat → Int32) (kl : Nat → Int32) (wn : Int32) (wf : Nat → Int32) (wt : Nat → Int32) (wv : Nat → Int64) (xw : Int32) (xp : Int32) (xr : Int32) (xq : Int32) (xe : Int32) (xh : Int32) (xb : Int32) (cn : Nat → Int32) (p0 : Int32) (p1 : Int32) (post : Int32 → (Nat → Int64) → (Nat → Int32) → (Nat → Int32) → Int32 → Int32 → Int32 → (Nat → Int32) → (Nat → Int32) → (Nat → Int64) → Int32 → Int32 → Int32 → Int32 → Int32 → Int32 → Int32 → (Nat → Int32) → Prop) (h : wp_Work_carryOut rn rc rv rm bc ocn ofn oc ofr oto osg ptn pin po pa pb pt pw pst pe kn kv kp kl wn wf wt wv xw xp xr xq xe xh xb cn p0 p1 post) : zq_Mi l zy_Work_carryOut zs_Work_carryOut ({ frames := 5, cells := 0, slots := 0, locals := 130 }) D kT [.ref (ad 32), .int p0, .int p1] (W_Work_carryOut kT ad rn rc rv rm bc ocn ofn oc ofr oto osg ptn pin po pa pb pt pw pst pe kn kv kp kl wn wf wt wv xw xp xr xq xe xh xb cn) (fun r w' => ∃ (rv' : Nat → Int64) (rm' : Nat → Int32) (bc' : Nat → Int32) (kn' : Int32) (kv' : Int32) (wn' : Int32) (wf' : Nat → Int32) (wt' : Nat → Int32) (wv' : Nat → Int64) (xw' : Int32) (xp' : Int32) (xr' : Int32) (xq' : Int32) (xe' : Int32) (xh' : Int32) (xb' : Int32) (cn' : Nat → Int32), w' = (W_Work_carryOut kT ad rn rc rv' rm' bc' ocn ofn oc ofr oto osg ptn pin po pa pb pt pw pst pe kn' kv' kp kl wn' wf' wt' wv' xw' xp' xr' xq' xe' xh' xb' cn') ∧ post r rv' rm' bc' kn' kv' wn' wf' wt' wv' xw' xp' xr' xq' xe' xh' xb' cn') := by
  refine zq_Mi_of (adl := (A_Work_carryOut ad)) (cc := zb_Work_carryOut) (maxL := 7) (own := zR_Work) rfl (by decide) rfl rfl (Nat.le_of_ble_eq_true rfl) ?_
  intro p e s m AV below meth c A QQ H locs ls hx hb hml hown ht hE hA hret hP hD hS hl
  have hK := hE.1
  have hl : lv_has ls 7 [(0, .ref (ad 32)), (1, .int p0), (2, .int p1)] := hl
  have B88 : ∀  (rv : Nat → Int64) (rm : Nat → Int32) (bc : Nat → Int32) (kn : Int32) (kv : Int32) (wn : Int32) (wf : Nat → Int32) (wt : Nat → Int32) (wv : Nat → Int64) (xw : Int32) (xp : Int32) (xr : Int32) (xq : Int32) (xe : Int32) (xh : Int32) (xb : Int32) (cn : Nat → Int32) (y3 : Int32) (y4 : Int32) (y5 : Int32) (H : Heap) (locs : List Loc) (ls : Array Slot), wp_Work_carryOut_88 rn rc ocn ofn oc ofr oto osg ptn pin po pa pb pt pw pst pe kp kl rv rm bc kn kv wn wf wt wv xw xp xr xq xe xh xb cn y3 y4 y5 post → va_P D vwCl (W_Work_carryOut kT ad rn rc rv rm bc ocn ofn oc ofr oto osg ptn pin po pa pb pt pw pst pe kn kv kp kl wn wf wt wv xw xp xr xq xe xh xb cn) H → va_D A (W_Work_carryOut kT ad rn rc rv rm bc ocn ofn oc ofr oto osg ptn pin po pa pb pt pw pst pe kn kv kp kl wn wf wt wv xw xp xr xq xe xh xb cn) → va_S A s.heap H locs → lv_has ls 7 [(0, .ref (ad 32)), (3, .int y3), (4, .int y4), (5, .int y5)] → W p l e ({ frames := 5, cells := 0, slots := 0, locals := 130 }) s m AV below meth c H locs 0 0 QQ (F0 m 88 ls []) := by
    intro rv rm bc kn kv wn wf wt wv xw xp xr xq xe xh xb cn y3 y4 y5 H locs ls h hP hD hS hl
    refine lv_iload hx hb zd_Work_carryOut_88 (lv_at hl 3 rfl) ?_
    refine lv_if_ne (tgt := 100) hx hb zd_Work_carryOut_90 (by decide) (fun c_30 => ?_) (fun c_30 => ?_)
    · have h := zq_if c_30 h
      refine lv_aload_n hx hb zd_Work_carryOut_100 rfl (lv_at hl 0 rfl) ?_
      refine va_get (D := D) (ci := 7) (v := .int xr) (C := zR_Work) (T := zF_Work) (N := 14) hx hb ht zi_Work hown hK hP 26 rfl rfl 9 (by decide) (ht _ zw_220) (fun _ h9 => h9) rfl zd_Work_carryOut_101 ?_
      refine lv_if_eq (tgt := 121) hx hb zd_Work_carryOut_104 (by decide) (fun c_31 => ?_) (fun c_31 => ?_)
      · have h := zq_it c_31 h
        refine lv_iload hx hb zd_Work_carryOut_121 (lv_at hl 3 rfl) ?_
        exact hret y5  _ H locs 123 ls ⟨rv, rm, bc, kn, kv, wn, wf, wt, wv, xw, xp, xr, xq, xe, xh, xb, cn, rfl, h⟩ hP rfl hS zd_Work_carryOut_123
      · have h := zq_if c_31 h
        refine lv_aload_n hx hb zd_Work_carryOut_107 rfl (lv_at hl 0 rfl) ?_
        refine zq_c_Vv (rest := []) (adl := (A_Work_carryOut ad)) (wr := [(ad 7, .inr (2, [.ref (ad 1), .ref (ad 8), .ref (ad 9), .ref (ad 10), .ref (ad 11), .int ocn, .int ofn])), (ad 8, .inl (kT 1, 16, .inr (.inl oc))), (ad 9, .inl (kT 0, 16, .inl ofr)), (ad 10, .inl (kT 0, 16, .inl oto)), (ad 11, .inl (kT 2, 16, .inl osg)), (ad 12, .inr (3, [.ref (ad 13), .ref (ad 14), .ref (ad 15), .ref (ad 16), .int ptn, .ref (ad 17), .ref (ad 18), .ref (ad 19), .ref (ad 20), .ref (ad 21), .int pin])), (ad 13, .inl (kT 0, 200, .inl po)), (ad 14, .inl (kT 0, 200, .inl pa)), (ad 15, .inl (kT 0, 200, .inl pb)), (ad 16, .inl (kT 0, 200, .inl pt)), (ad 19, .inl (kT 0, 40, .inl pw)), (ad 20, .inl (kT 0, 40, .inl pst)), (ad 21, .inl (kT 0, 40, .inl pe)), (ad 22, .inr (4, [.ref (ad 23), .ref (ad 24), .int kn, .int kv])), (ad 23, .inl (kT 0, 8, .inl kp)), (ad 24, .inl (kT 0, 8, .inl kl)), (ad 34, .inl (kT 0, 9, .inl cn))]) ⟨hx, hb, hml, hown, ht⟩ (c_Work_takeBack l D kT ad rn rc rv rm bc wn wf wt wv xw xp xr xq xe xh xb _ h) (cwV 0 ht (zq_gV zw_311 zw_312 zw_313 zw_233 zw_314) rfl rfl rfl zh_Work_takeBack ⟨Nat.le_of_ble_eq_true rfl, Nat.le_of_ble_eq_true rfl⟩) hE hP hD hS hA [0, 1, 2, 3, 4, 5, 22, 23, 24, 25, 26] [6, 7, 8, 9, 10, 11, 12, 13, 14, 15, 16, 17, 18, 19, 20, 21, 27] 28 rfl (by decide +kernel) rfl (by decide +kernel) rfl rfl 10 rfl rfl rfl rfl hl.1 (Nat.le_of_ble_eq_true rfl) rfl zd_Work_carryOut_108 ⟨Nat.zero_le _, Nat.zero_le _⟩ (fun w1 H locs hw hJ hS => ?_)
        obtain ⟨rv_32, rm_33, bc_34, xh_35, rfl, h⟩ := hw
        obtain ⟨hP, hD⟩ := hJ (W_Work_carryOut kT ad rn rc rv_32 rm_33 bc_34 ocn ofn oc ofr oto osg ptn pin po pa pb pt pw pst pe kn kv kp kl wn wf wt wv xw xp xr xq xe xh_35 xb cn) rfl rfl rfl
        refine lv_aload_n hx hb zd_Work_carryOut_111 rfl (lv_at hl 0 rfl) ?_
        refine va_get (D := D) (ci := 7) (v := .ref (ad 22)) (C := zR_Work) (T := zF_Work) (N := 14) hx hb ht zi_Work hown hK hP 26 rfl rfl 4 (by decide) (ht _ zw_257) (fun _ h9 => h9) rfl zd_Work_carryOut_112 ?_
        refine lv_iload_n hx hb zd_Work_carryOut_115 rfl (lv_at hl 1 rfl) ?_
        refine lv_iload hx hb zd_Work_carryOut_116 (lv_at hl 2 rfl) ?_
        refine zq_c_Vv (rest := []) (adl := (A_Work_carryOut ad)) (wr := [(ad 1, .inr (0, [.ref (ad 2), .ref (ad 3), .ref (ad 4), .int rn])), (ad 2, .inl (kT 1, 24, .inr (.inl rc))), (ad 3, .inl (kT 1, 24, .inr (.inl rv_32))), (ad 4, .inl (kT 2, 24, .inl rm_33)), (ad 5, .inr (1, [.ref (ad 6)])), (ad 6, .inl (kT 3, 4096, .inl bc_34)), (ad 7, .inr (2, [.ref (ad 1), .ref (ad 8), .ref (ad 9), .ref (ad 10), .ref (ad 11), .int ocn, .int ofn])), (ad 8, .inl (kT 1, 16, .inr (.inl oc))), (ad 9, .inl (kT 0, 16, .inl ofr)), (ad 10, .inl (kT 0, 16, .inl oto)), (ad 11, .inl (kT 2, 16, .inl osg)), (ad 12, .inr (3, [.ref (ad 13), .ref (ad 14), .ref (ad 15), .ref (ad 16), .int ptn, .ref (ad 17), .ref (ad 18), .ref (ad 19), .ref (ad 20), .ref (ad 21), .int pin])), (ad 13, .inl (kT 0, 200, .inl po)), (ad 14, .inl (kT 0, 200, .inl pa)), (ad 15, .inl (kT 0, 200, .inl pb)), (ad 16, .inl (kT 0, 200, .inl pt)), (ad 19, .inl (kT 0, 40, .inl pw)), (ad 20, .inl (kT 0, 40, .inl pst)), (ad 21, .inl (kT 0, 40, .inl pe)), (ad 23, .inl (kT 0, 8, .inl kp)), (ad 24, .inl (kT 0, 8, .inl kl)), (ad 28, .inr (6, [.ref (ad 1), .ref (ad 5), .ref (ad 29), .ref (ad 30), .ref (ad 31), .int wn])), (ad 29, .inl (kT 0, 200, .inl wf)), (ad 30, .inl (kT 0, 200, .inl wt)), (ad 31, .inl (kT 1, 200, .inr (.inl wv))), (ad 32, .inr (7, [.ref (ad 1), .ref (ad 5), .ref (ad 7), .ref (ad 12), .ref (ad 22), .ref (ad 28), .ref (ad 34), .int xw, .int xp, .int xr, .int xq, .int xe, .int xh_35, .int xb])), (ad 34, .inl (kT 0, 9, .inl cn))]) ⟨hx, hb, hml, hown, ht⟩ (c_Kept_restore l D kT ad kn kv y3 y4 _ h) (cwV 2 ht (zq_gV zw_315 zw_316 zw_317 zw_261 zw_318) rfl rfl rfl zh_Kept_restore ⟨Nat.le_of_ble_eq_true rfl, Nat.le_of_ble_eq_true rfl⟩) hE hP hD hS hA [19] [0, 1, 2, 3, 4, 5, 6, 7, 8, 9, 10, 11, 12, 13, 14, 15, 16, 17, 18, 20, 21, 22, 23, 24, 25, 26, 27] 28 rfl (by decide +kernel) rfl (by decide +kernel) rfl rfl 0 rfl rfl rfl rfl hl.1 (Nat.le_of_ble_eq_true rfl) rfl zd_Work_carryOut_118 ⟨Nat.zero_le _, Nat.zero_le _⟩ (fun w1 H locs hw hJ hS => ?_)
        obtain ⟨kn_37, kv_38, rfl, h⟩ := hw
        obtain ⟨hP, hD⟩ := hJ (W_Work_carryOut kT ad rn rc rv_32 rm_33 bc_34 ocn ofn oc ofr oto osg ptn pin po pa pb pt pw pst pe kn_37 kv_38 kp kl wn wf wt wv xw xp xr xq xe xh_35 xb cn) rfl rfl rfl
        refine lv_iload hx hb zd_Work_carryOut_121 (lv_at hl 3 rfl) ?_
        exact hret y5  _ H locs 123 ls ⟨rv_32, rm_33, bc_34, kn_37, kv_38, wn, wf, wt, wv, xw, xp, xr, xq, xe, xh_35, xb, cn, rfl, h⟩ hP rfl hS zd_Work_carryOut_123
    · have h := zq_it c_30 h
      refine lv_aload_n hx hb zd_Work_carryOut_93 rfl (lv_at hl 0 rfl) ?_
      refine zq_c_Vv (rest := []) (adl := (A_Work_carryOut ad)) (wr := [(ad 7, .inr (2, [.ref (ad 1), .ref (ad 8), .ref (ad 9), .ref (ad 10), .ref (ad 11), .int ocn, .int ofn])), (ad 8, .inl (kT 1, 16, .inr (.inl oc))), (ad 9, .inl (kT 0, 16, .inl ofr)), (ad 10, .inl (kT 0, 16, .inl oto)), (ad 11, .inl (kT 2, 16, .inl osg)), (ad 12, .inr (3, [.ref (ad 13), .ref (ad 14), .ref (ad 15), .ref (ad 16), .int ptn, .ref (ad 17), .ref (ad 18), .ref (ad 19), .ref (ad 20), .ref (ad 21), .int pin])), (ad 13, .inl (kT 0, 200, .inl po)), (ad 14, .inl (kT 0, 200, .inl pa)), (ad 15, .inl (kT 0, 200, .inl pb)), (ad 16, .inl (kT 0, 200, .inl pt)), (ad 19, .inl (kT 0, 40, .inl pw)), (ad 20, .inl (kT 0, 40, .inl pst)), (ad 21, .inl (kT 0, 40, .inl pe)), (ad 22, .inr (4, [.ref (ad 23), .ref (ad 24), .int kn, .int kv])), (ad 23, .inl (kT 0, 8, .inl kp)), (ad 24, .inl (kT 0, 8, .inl kl)), (ad 34, .inl (kT 0, 9, .inl cn))]) ⟨hx, hb, hml, hown, ht⟩ (c_Work_writeWhatWaits l D kT ad rn rc rv rm bc wn wf wt wv xw xp xr xq xe xh xb _ h) (cwV 0 ht (zq_gV zw_319 zw_320 zw_321 zw_233 zw_322) rfl rfl rfl zh_Work_writeWhatWaits ⟨Nat.le_of_ble_eq_true rfl, Nat.le_of_ble_eq_true rfl⟩) hE hP hD hS hA [0, 1, 2, 3, 4, 5, 22, 23, 24, 25, 26] [6, 7, 8, 9, 10, 11, 12, 13, 14, 15, 16, 17, 18, 19, 20, 21, 27] 28 rfl (by decide +kernel) rfl (by decide +kernel) rfl rfl 10 rfl rfl rfl rfl hl.1 (Nat.le_of_ble_eq_true rfl) rfl zd_Work_carryOut_94 ⟨Nat.zero_le _, Nat.zero_le _⟩ (fun w1 H locs hw hJ hS => ?_)
      obtain ⟨rv_40, rm_41, bc_42, rfl, h⟩ := hw
      obtain ⟨hP, hD⟩ := hJ (W_Work_carryOut kT ad rn rc rv_40 rm_41 bc_42 ocn ofn oc ofr oto osg ptn pin po pa pb pt pw pst pe kn kv kp kl wn wf wt wv xw xp xr xq xe xh xb cn) rfl rfl rfl
      refine lv_goto (tgt := 121) hx hb zd_Work_carryOut_97 (by decide) ?_
      refine lv_iload hx hb zd_Work_carryOut_121 (lv_at hl 3 rfl) ?_
      exact hret y5  _ H locs 123 ls ⟨rv_40, rm_41, bc_42, kn, kv, wn, wf, wt, wv, xw, xp, xr, xq, xe, xh, xb, cn, rfl, h⟩ hP rfl hS zd_Work_carryOut_123
  have B37 : ∀ (n : Nat) (rv : Nat → Int64) (rm : Nat → Int32) (bc : Nat → Int32) (kn : Int32) (kv : Int32) (wn : Int32) (wf : Nat → Int32) (wt : Nat → Int32) (wv : Nat → Int64) (xw : Int32) (xp : Int32) (xr : Int32) (xq : Int32) (xe : Int32) (xh : Int32) (xb : Int32) (cn : Nat → Int32) (y1 : Int32) (y3 : Int32) (y4 : Int32) (y5 : Int32) (y6 : Int32) (H : Heap) (locs : List Loc) (ls : Array Slot), wp_Work_carryOut_37 rn rc ocn ofn oc ofr oto osg ptn pin po pa pb pt pw pst pe kp kl post n rv rm bc kn kv wn wf wt wv xw xp xr xq xe xh xb cn y1 y3 y4 y5 y6 → va_P D vwCl (W_Work_carryOut kT ad rn rc rv rm bc ocn ofn oc ofr oto osg ptn pin po pa pb pt pw pst pe kn kv kp kl wn wf wt wv xw xp xr xq xe xh xb cn) H → va_D A (W_Work_carryOut kT ad rn rc rv rm bc ocn ofn oc ofr oto osg ptn pin po pa pb pt pw pst pe kn kv kp kl wn wf wt wv xw xp xr xq xe xh xb cn) → va_S A s.heap H locs → lv_has ls 7 [(0, .ref (ad 32)), (1, .int y1), (3, .int y3), (4, .int y4), (5, .int y5), (6, .int y6)] → W p l e ({ frames := 5, cells := 0, slots := 0, locals := 130 }) s m AV below meth c H locs 0 0 QQ (F0 m 37 ls []) := by
    intro n
    induction n with
    | zero =>
      intro rv rm bc kn kv wn wf wt wv xw xp xr xq xe xh xb cn y1 y3 y4 y5 y6 H locs ls h
      exact h.elim
    | succ n ih =>
      intro rv rm bc kn kv wn wf wt wv xw xp xr xq xe xh xb cn y1 y3 y4 y5 y6 H locs ls h hP hD hS hl
      refine lv_iload hx hb zd_Work_carryOut_37 (lv_at hl 5 rfl) ?_
      refine lv_aload_n hx hb zd_Work_carryOut_39 rfl (lv_at hl 0 rfl) ?_
      refine va_get (D := D) (ci := 7) (v := .ref (ad 12)) (C := zR_Work) (T := zF_Work) (N := 14) hx hb ht zi_Work hown hK hP 26 rfl rfl 3 (by decide) (ht _ zw_213) (fun _ h9 => h9) rfl zd_Work_carryOut_40 ?_
      refine va_getN (D := D) (ci := 3) (v := .ref (ad 21)) (C := zR_Program) (T := zF_Program) (N := 11) hx hb ht zi_Program hown hK hP 11 rfl rfl 9 (by decide) (hE.nw zx_11) (fun _ h9 => h9) rfl zd_Work_carryOut_43 ?_
      refine lv_iload_n hx hb zd_Work_carryOut_46 rfl (lv_at hl 1 rfl) ?_
      obtain ⟨hi_11, h⟩ := h
      refine zq_a_iald (D := D) hx hb hK hP 18 0 rfl rfl hi_11 rfl zd_Work_carryOut_47 ?_
      refine lv_icmp_ge (tgt := 88) hx hb zd_Work_carryOut_48 (by decide) (fun c_12 => ?_) (fun c_12 => ?_)
      · have h := zq_it c_12 h
        exact B88 rv rm bc kn kv wn wf wt wv xw xp xr xq xe xh xb cn y3 y4 y5 H locs ls h hP hD hS (lv_sub hl [0, 2, 3, 4] rfl)
      · have h := zq_if c_12 h
        refine lv_iload hx hb zd_Work_carryOut_51 (lv_at hl 4 rfl) ?_
        refine lv_if_ne (tgt := 88) hx hb zd_Work_carryOut_53 (by decide) (fun c_13 => ?_) (fun c_13 => ?_)
        · have h := zq_if c_13 h
          exact B88 rv rm bc kn kv wn wf wt wv xw xp xr xq xe xh xb cn y3 y4 y5 H locs ls h hP hD hS (lv_sub hl [0, 2, 3, 4] rfl)
        · have h := zq_it c_13 h
          refine lv_aload_n hx hb zd_Work_carryOut_56 rfl (lv_at hl 0 rfl) ?_
          refine va_get (D := D) (ci := 7) (v := .int xe) (C := zR_Work) (T := zF_Work) (N := 14) hx hb ht zi_Work hown hK hP 26 rfl rfl 11 (by decide) (ht _ zw_222) (fun _ h9 => h9) rfl zd_Work_carryOut_57 ?_
          refine lv_if_ne (tgt := 88) hx hb zd_Work_carryOut_60 (by decide) (fun c_14 => ?_) (fun c_14 => ?_)
          · have h := zq_if c_14 h
            exact B88 rv rm bc kn kv wn wf wt wv xw xp xr xq xe xh xb cn y3 y4 y5 H locs ls h hP hD hS (lv_sub hl [0, 2, 3, 4] rfl)
          · have h := zq_it c_14 h
            refine lv_aload_n hx hb zd_Work_carryOut_63 rfl (lv_at hl 0 rfl) ?_
            refine va_get (D := D) (ci := 7) (v := .ref (ad 34)) (C := zR_Work) (T := zF_Work) (N := 14) hx hb ht zi_Work hown hK hP 26 rfl rfl 6 (by decide) (ht _ zw_254) (fun _ h9 => h9) rfl zd_Work_carryOut_64 ?_
            refine lv_bipush (v := 8) hx hb zd_Work_carryOut_67 (by decide) ?_
            refine lv_dup2_11 hx hb zd_Work_carryOut_69 rfl rfl ?_
            refine zq_a_iald (D := D) (j := 8) hx hb hK hP 27 0 rfl rfl (zq_in (by decide)) (by decide) zd_Work_carryOut_70 ?_
            refine lv_iconst (v := 1) hx hb zd_Work_carryOut_71 (by decide) ?_
            refine lv_iadd hx hb zd_Work_carryOut_72 ?_
            refine zq_a_iast (D := D) (j := 8) hx hb hK hP hD hS 27 0 rfl rfl (zq_in (by decide)) (by decide) zd_Work_carryOut_73 (fun H locs hP hD hS => ?_)
            have hP : va_P D vwCl (W_Work_carryOut kT ad rn rc rv rm bc ocn ofn oc ofr oto osg ptn pin po pa pb pt pw pst pe kn kv kp kl wn wf wt wv xw xp xr xq xe xh xb (upd cn 8 ((cn 8) + 1))) H := hP
            have hD : va_D A (W_Work_carryOut kT ad rn rc rv rm bc ocn ofn oc ofr oto osg ptn pin po pa pb pt pw pst pe kn kv kp kl wn wf wt wv xw xp xr xq xe xh xb (upd cn 8 ((cn 8) + 1))) := hD
            refine lv_aload_n hx hb zd_Work_carryOut_74 rfl (lv_at hl 0 rfl) ?_
            refine lv_iload hx hb zd_Work_carryOut_75 (lv_at hl 5 rfl) ?_
            refine zq_c_Vi (rest := []) (adl := (A_Work_carryOut ad)) (wr := [(ad 19, .inl (kT 0, 40, .inl pw)), (ad 20, .inl (kT 0, 40, .inl pst)), (ad 21, .inl (kT 0, 40, .inl pe))]) ⟨hx, hb, hml, hown, ht⟩ (c_Work_doTransfer l D kT ad rn rc rv rm bc ocn ofn oc ofr oto osg ptn pin po pa pb pt kn kv kp kl wn wf wt wv xw xp xr xq xe xh xb (upd cn 8 ((cn 8) + 1)) y6 _ h) (cwV 1 ht (zq_gV zw_307 zw_308 zw_309 zw_233 zw_310) rfl rfl rfl zh_Work_doTransfer ⟨Nat.le_of_ble_eq_true rfl, Nat.le_of_ble_eq_true rfl⟩) hE hP hD hS hA [0, 1, 2, 3, 4, 5, 6, 7, 8, 9, 10, 11, 12, 13, 14, 15, 19, 20, 21, 22, 23, 24, 25, 26, 27] [16, 17, 18] 28 rfl (by decide +kernel) rfl (by decide +kernel) rfl rfl 23 rfl rfl rfl rfl hl.1 (Nat.le_of_ble_eq_true rfl) rfl zd_Work_carryOut_77 ⟨Nat.zero_le _, Nat.zero_le _⟩ (fun r_29 w1 H locs hw hJ hS => ?_)
            obtain ⟨rv_15, rm_16, bc_17, kn_18, kv_19, wn_20, wf_21, wt_22, wv_23, xq_24, xe_25, xh_26, xb_27, cn_28, rfl, h⟩ := hw
            obtain ⟨hP, hD⟩ := hJ (W_Work_carryOut kT ad rn rc rv_15 rm_16 bc_17 ocn ofn oc ofr oto osg ptn pin po pa pb pt pw pst pe kn_18 kv_19 kp kl wn_20 wf_21 wt_22 wv_23 xw xp xr xq_24 xe_25 xh_26 xb_27 cn_28) rfl rfl rfl
            refine lv_istore (lv' := [(5, .int r_29), (0, .ref (ad 32)), (1, .int y1), (3, .int y3), (4, .int y4), (6, .int y6)]) hx hb zd_Work_carryOut_80 hl (by decide) rfl (fun ls hl => ?_)
            refine lv_iinc (v := (y6 + 1)) (lv' := [(6, .int (y6 + 1)), (5, .int r_29), (0, .ref (ad 32)), (1, .int y1), (3, .int y3), (4, .int y4)]) hx hb zd_Work_carryOut_82 hl (k := 5) rfl rfl (by decide) rfl (fun ls hl => ?_)
            refine lv_goto (tgt := 37) hx hb zd_Work_carryOut_85 (by decide) ?_
            exact ih rv_15 rm_16 bc_17 kn_18 kv_19 wn_20 wf_21 wt_22 wv_23 xw xp xr xq_24 xe_25 xh_26 xb_27 cn_28 y1 y3 y4 r_29 (y6 + 1) H locs ls h hP hD hS (lv_sub hl [2, 3, 4, 5, 1, 0] rfl)
  refine lv_aload_n hx hb zd_Work_carryOut_0 rfl (lv_at hl 0 rfl) ?_
  refine lv_iload_n hx hb zd_Work_carryOut_1 rfl (lv_at hl 1 rfl) ?_
  refine lv_iload_n hx hb zd_Work_carryOut_2 rfl (lv_at hl 2 rfl) ?_
  refine zq_c_Vv (rest := []) (adl := (A_Work_carryOut ad)) (wr := [(ad 1, .inr (0, [.ref (ad 2), .ref (ad 3), .ref (ad 4), .int rn])), (ad 2, .inl (kT 1, 24, .inr (.inl rc))), (ad 3, .inl (kT 1, 24, .inr (.inl rv))), (ad 4, .inl (kT 2, 24, .inl rm)), (ad 5, .inr (1, [.ref (ad 6)])), (ad 6, .inl (kT 3, 4096, .inl bc)), (ad 7, .inr (2, [.ref (ad 1), .ref (ad 8), .ref (ad 9), .ref (ad 10), .ref (ad 11), .int ocn, .int ofn])), (ad 8, .inl (kT 1, 16, .inr (.inl oc))), (ad 9, .inl (kT 0, 16, .inl ofr)), (ad 10, .inl (kT 0, 16, .inl oto)), (ad 11, .inl (kT 2, 16, .inl osg)), (ad 13, .inl (kT 0, 200, .inl po)), (ad 14, .inl (kT 0, 200, .inl pa)), (ad 15, .inl (kT 0, 200, .inl pb)), (ad 16, .inl (kT 0, 200, .inl pt)), (ad 20, .inl (kT 0, 40, .inl pst)), (ad 21, .inl (kT 0, 40, .inl pe)), (ad 22, .inr (4, [.ref (ad 23), .ref (ad 24), .int kn, .int kv])), (ad 23, .inl (kT 0, 8, .inl kp)), (ad 24, .inl (kT 0, 8, .inl kl)), (ad 29, .inl (kT 0, 200, .inl wf)), (ad 30, .inl (kT 0, 200, .inl wt)), (ad 31, .inl (kT 1, 200, .inr (.inl wv))), (ad 34, .inl (kT 0, 9, .inl cn))]) ⟨hx, hb, hml, hown, ht⟩ (c_Work_prepare l D kT ad ptn pin pw wn xw xp xr xq xe xh xb p0 p1 _ h) (cwV 2 ht (zq_gV zw_303 zw_304 zw_305 zw_233 zw_306) rfl rfl rfl zh_Work_prepare ⟨Nat.le_of_ble_eq_true rfl, Nat.le_of_ble_eq_true rfl⟩) hE hP hD hS hA [11, 16, 22, 26] [0, 1, 2, 3, 4, 5, 6, 7, 8, 9, 10, 12, 13, 14, 15, 17, 18, 19, 20, 21, 23, 24, 25, 27] 28 rfl (by decide +kernel) rfl (by decide +kernel) rfl rfl 3 rfl rfl rfl rfl hl.1 (Nat.le_of_ble_eq_true rfl) rfl zd_Work_carryOut_3 ⟨Nat.zero_le _, Nat.zero_le _⟩ (fun w1 H locs hw hJ hS => ?_)
  obtain ⟨wn_1, xw_2, xp_3, xr_4, xq_5, xe_6, xh_7, xb_8, rfl, h⟩ := hw
  obtain ⟨hP, hD⟩ := hJ (W_Work_carryOut kT ad rn rc rv rm bc ocn ofn oc ofr oto osg ptn pin po pa pb pt pw pst pe kn kv kp kl wn_1 wf wt wv xw_2 xp_3 xr_4 xq_5 xe_6 xh_7 xb_8 cn) rfl rfl rfl
  refine lv_aload_n hx hb zd_Work_carryOut_6 rfl (lv_at hl 0 rfl) ?_
  refine va_get (D := D) (ci := 7) (v := .ref (ad 22)) (C := zR_Work) (T := zF_Work) (N := 14) hx hb ht zi_Work hown hK hP 26 rfl rfl 4 (by decide) (ht _ zw_257) (fun _ h9 => h9) rfl zd_Work_carryOut_7 ?_
  refine va_getN (D := D) (ci := 4) (v := .int kn) (C := zR_Kept) (T := zF_Kept) (N := 4) hx hb ht zi_Kept hown hK hP 19 rfl rfl 2 (by decide) (hE.nw zx_14) (fun _ h9 => h9) rfl zd_Work_carryOut_10 ?_
  refine lv_istore_n (lv' := [(3, .int kn), (0, .ref (ad 32)), (1, .int p0), (2, .int p1)]) hx hb zd_Work_carryOut_13 rfl hl (by decide) rfl (fun ls hl => ?_)
  refine lv_aload_n hx hb zd_Work_carryOut_14 rfl (lv_at hl 1 rfl) ?_
  refine va_get (D := D) (ci := 7) (v := .ref (ad 22)) (C := zR_Work) (T := zF_Work) (N := 14) hx hb ht zi_Work hown hK hP 26 rfl rfl 4 (by decide) (ht _ zw_257) (fun _ h9 => h9) rfl zd_Work_carryOut_15 ?_
  refine va_getN (D := D) (ci := 4) (v := .int kv) (C := zR_Kept) (T := zF_Kept) (N := 4) hx hb ht zi_Kept hown hK hP 19 rfl rfl 3 (by decide) (hE.nw zx_16) (fun _ h9 => h9) rfl zd_Work_carryOut_18 ?_
  refine lv_istore (lv' := [(4, .int kv), (3, .int kn), (0, .ref (ad 32)), (1, .int p0), (2, .int p1)]) hx hb zd_Work_carryOut_21 hl (by decide) rfl (fun ls hl => ?_)
  refine lv_iconst (v := 0) hx hb zd_Work_carryOut_23 (by decide) ?_
  refine lv_istore (lv' := [(5, .int 0), (4, .int kv), (3, .int kn), (0, .ref (ad 32)), (1, .int p0), (2, .int p1)]) hx hb zd_Work_carryOut_24 hl (by decide) rfl (fun ls hl => ?_)
  refine lv_aload_n hx hb zd_Work_carryOut_26 rfl (lv_at hl 3 rfl) ?_
  refine va_get (D := D) (ci := 7) (v := .ref (ad 12)) (C := zR_Work) (T := zF_Work) (N := 14) hx hb ht zi_Work hown hK hP 26 rfl rfl 3 (by decide) (ht _ zw_213) (fun _ h9 => h9) rfl zd_Work_carryOut_27 ?_
  refine va_getN (D := D) (ci := 3) (v := .ref (ad 20)) (C := zR_Program) (T := zF_Program) (N := 11) hx hb ht zi_Program hown hK hP 11 rfl rfl 8 (by decide) (hE.nw zx_10) (fun _ h9 => h9) rfl zd_Work_carryOut_30 ?_
  refine lv_iload_n hx hb zd_Work_carryOut_33 rfl (lv_at hl 4 rfl) ?_
  obtain ⟨hi_10, h⟩ := h
  refine zq_a_iald (D := D) hx hb hK hP 17 0 rfl rfl hi_10 rfl zd_Work_carryOut_34 ?_
  refine lv_istore (lv' := [(6, .int (pst p0.toNatClampNeg)), (5, .int 0), (4, .int kv), (3, .int kn), (0, .ref (ad 32)), (1, .int p0), (2, .int p1)]) hx hb zd_Work_carryOut_35 hl (by decide) rfl (fun ls hl => ?_)
  obtain ⟨n, h⟩ := h
  exact B37 n rv rm bc kn kv wn_1 wf wt wv xw_2 xp_3 xr_4 xq_5 xe_6 xh_7 xb_8 cn p0 kn kv 0 (pst p0.toNatClampNeg) H locs ls h hP hD hS (lv_sub hl [4, 5, 3, 2, 1, 0] rfl)
end
